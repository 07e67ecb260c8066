set_option maxHeartbeats 4000000 in
set_option maxRecDepth 100000 in
theorem c_X9_thrown (l : Launch) (G : GG) (ad : Nat → Nat) (sz : Nat) (d_ad : Pic) (dw : Int64)  (out : Int32) (hf : f_X9_thrown d_ad = some out) : Met l yX9_thrown (.code yX9_thrown cX9_thrown 1 (some .int) :: BT) ({ frames := 0, cells := 0, slots := 0, locals := 0 }) (va_Pc [.ref (ad 99)] (PreW G sz (dO G ad d_ad dw ++ []))) (Ans G out (va_A (dO G ad d_ad dw ++ []) sz) (dO G ad d_ad dw ++ [])) 0 0 (va_A (dO G ad d_ad dw ++ []) sz) := by
  refine Met.into (by decide) (Nat.le_of_ble_eq_true rfl) ?_
  intro p e s m below meth c C hsz ls hl hw
  have hl : lv_has ls 1 [(0, .ref (ad 99))] := hl
  clear hsz
  generalize va_A (dO G ad d_ad dw ++ []) sz = A at hw ⊢
  unfold f_X9_thrown at hf
  refine r_aload0 C hl 0 rfl dX9_thrown_0 ?_
  refine r_get C hw _ (gx_h dO_o) 0 fl_X9_75 rfl dX9_thrown_1 ?_
  exact fin_i C hw (Option.some.inj hf) (fun o => o) (fun o => (dO G ad d_ad dw ++ [])) rfl rfl dX9_thrown_4
set_option maxHeartbeats 4000000 in
set_option maxRecDepth 100000 in
theorem c_X9_refused (l : Launch) (G : GG) (ad : Nat → Nat) (sz : Nat) (d_ad : Pic) (dw : Int64) (x1 : Int32) (out : Int32 × Pic) (hf : f_X9_refused d_ad x1 = some out) : Met l yX9_refused (.code yX9_refused cX9_refused 2 (some .int) :: BT) ({ frames := 0, cells := 0, slots := 0, locals := 0 }) (va_Pc [.ref (ad 99), .int x1] (PreW G sz (dO G ad d_ad dw ++ []))) (Ans G out.1 (va_A (dO G ad d_ad dw ++ []) sz) (dO G ad out.2 dw ++ [])) 0 0 (va_A (dO G ad d_ad dw ++ []) sz) := by
  refine Met.into (by decide) (Nat.le_of_ble_eq_true rfl) ?_
  intro p e s m below meth c C hsz ls hl hw
  have hl : lv_has ls 2 [(0, .ref (ad 99)), (1, .int x1)] := hl
  clear hsz
  generalize va_A (dO G ad d_ad dw ++ []) sz = A at hw ⊢
  unfold f_X9_refused at hf
  refine r_aload0 C hl 0 rfl dX9_refused_0 ?_
  refine r_iload0 C hl 1 rfl dX9_refused_1 ?_
  obtain ⟨d_ad1, e1, hf⟩ := bx hf
  refine r_put C hw _ (gx_h dO_o) 1 fp_X9_78 rfl rfl (Nat.le_of_ble_eq_true rfl) (dO G ad d_ad1 dw ++ []) (sx_h dO_o (dO_p1 e1)) dX9_refused_2 (fun H locs hw => ?_)
  refine r_aload0 C hl 0 rfl dX9_refused_5 ?_
  refine lv_iconst (v := (-1)) C.1 C.2.1 dX9_refused_6 (by decide) ?_
  obtain ⟨d_ad2, e2, hf⟩ := bx hf
  refine r_put C hw _ (gx_h dO_o) 2 fp_X9_9 rfl rfl (Nat.le_of_ble_eq_true rfl) (dO G ad d_ad2 dw ++ []) (sx_h dO_o (dO_p2 e2)) dX9_refused_7 (fun H locs hw => ?_)
  refine lv_iconst (v := (-1)) C.1 C.2.1 dX9_refused_10 (by decide) ?_
  exact fin_i C hw (Option.some.inj hf) (fun o => o.1) (fun o => (dO G ad o.2 dw ++ [])) rfl rfl dX9_refused_11
set_option maxHeartbeats 4000000 in
set_option maxRecDepth 100000 in
theorem c_X9_good (l : Launch) (G : GG) (ad : Nat → Nat) (sz : Nat) (d_ad : Pic) (dw : Int64) (x1 : Int32) (out : Int32 × Pic) (hf : f_X9_good d_ad x1 = some out) : Met l yX9_good (.code yX9_good cX9_good 2 (some .int) :: BT) ({ frames := 0, cells := 0, slots := 0, locals := 0 }) (va_Pc [.ref (ad 99), .int x1] (PreW G sz (dO G ad d_ad dw ++ []))) (Ans G out.1 (va_A (dO G ad d_ad dw ++ []) sz) (dO G ad out.2 dw ++ [])) 0 0 (va_A (dO G ad d_ad dw ++ []) sz) := by
  refine Met.into (by decide) (Nat.le_of_ble_eq_true rfl) ?_
  intro p e s m below meth c C hsz ls hl hw
  have hl : lv_has ls 2 [(0, .ref (ad 99)), (1, .int x1)] := hl
  clear hsz
  generalize va_A (dO G ad d_ad dw ++ []) sz = A at hw ⊢
  unfold f_X9_good at hf
  refine r_aload0 C hl 0 rfl dX9_good_0 ?_
  refine lv_iconst (v := 0) C.1 C.2.1 dX9_good_1 (by decide) ?_
  obtain ⟨d_ad1, e1, hf⟩ := bx hf
  refine r_put C hw _ (gx_h dO_o) 1 fp_X9_78 rfl rfl (Nat.le_of_ble_eq_true rfl) (dO G ad d_ad1 dw ++ []) (sx_h dO_o (dO_p1 e1)) dX9_good_2 (fun H locs hw => ?_)
  refine r_aload0 C hl 0 rfl dX9_good_5 ?_
  refine lv_iconst (v := (-1)) C.1 C.2.1 dX9_good_6 (by decide) ?_
  obtain ⟨d_ad2, e2, hf⟩ := bx hf
  refine r_put C hw _ (gx_h dO_o) 2 fp_X9_9 rfl rfl (Nat.le_of_ble_eq_true rfl) (dO G ad d_ad2 dw ++ []) (sx_h dO_o (dO_p2 e2)) dX9_good_7 (fun H locs hw => ?_)
  refine r_iload0 C hl 1 rfl dX9_good_10 ?_
  exact fin_i C hw (Option.some.inj hf) (fun o => o.1) (fun o => (dO G ad o.2 dw ++ [])) rfl rfl dX9_good_11
set_option maxHeartbeats 4000000 in
set_option maxRecDepth 100000 in
theorem c_X9_in (l : Launch) (G : GG)  (sz : Nat)  (x0 x1 x2 : Int32) (out : Int32) (hf : f_X9_in x0 x1 x2 = some out) : Met l yX9_in (.code yX9_in cX9_in 3 (some .boolean) :: BT) ({ frames := 0, cells := 0, slots := 0, locals := 0 }) (va_Pc [.int x0, .int x1, .int x2] (PreW G sz [])) (Ans G out (va_A [] sz) []) 0 0 (va_A [] sz) := by
  refine Met.into (by decide) (Nat.le_of_ble_eq_true rfl) ?_
  intro p e s m below meth c C hsz ls hl hw
  have hl : lv_has ls 3 [(0, .int x0), (1, .int x1), (2, .int x2)] := hl
  clear hsz
  generalize va_A [] sz = A at hw ⊢
  unfold f_X9_in at hf
  refine r_iload0 C hl 0 rfl dX9_in_0 ?_
  refine r_iload0 C hl 1 rfl dX9_in_1 ?_
  refine lv_icmp_lt (tgt := 14) C.1 C.2.1 dX9_in_2 (by decide) (fun hc => ?_) (fun hc => ?_)
  · replace hf := ifp hf hc
    refine lv_iconst (v := 0) C.1 C.2.1 dX9_in_14 (by decide) ?_
    exact fin_z C hw (by decide) (Option.some.inj hf) (fun o => o) (fun o => []) rfl rfl dX9_in_15
  · replace hf := ifn hf hc
    refine r_iload0 C hl 0 rfl dX9_in_5 ?_
    refine r_iload0 C hl 2 rfl dX9_in_6 ?_
    refine lv_icmp_gt (tgt := 14) C.1 C.2.1 dX9_in_7 (by decide) (fun hc => ?_) (fun hc => ?_)
    · replace hf := ifp hf hc
      refine lv_iconst (v := 0) C.1 C.2.1 dX9_in_14 (by decide) ?_
      exact fin_z C hw (by decide) (Option.some.inj hf) (fun o => o) (fun o => []) rfl rfl dX9_in_15
    · replace hf := ifn hf hc
      refine lv_iconst (v := 1) C.1 C.2.1 dX9_in_10 (by decide) ?_
      refine lv_goto (tgt := 15) C.1 C.2.1 dX9_in_11 (by decide) ?_
      exact fin_z C hw (by decide) (Option.some.inj hf) (fun o => o) (fun o => []) rfl rfl dX9_in_15
set_option maxHeartbeats 4000000 in
set_option maxRecDepth 100000 in
theorem c_X9_byteAt (l : Launch) (G : GG) (ad : Nat → Nat) (sz : Nat) (d_ad : Pic) (dw : Int64) (x1 : Int32) (out : Int32) (hf : f_X9_byteAt d_ad x1 = some out) : Met l yX9_byteAt (.code yX9_byteAt cX9_byteAt 2 (some .int) :: BT) ({ frames := 0, cells := 0, slots := 0, locals := 0 }) (va_Pc [.ref (ad 99), .int x1] (PreW G sz (dO G ad d_ad dw ++ []))) (Ans G out (va_A (dO G ad d_ad dw ++ []) sz) (dO G ad d_ad dw ++ [])) 0 0 (va_A (dO G ad d_ad dw ++ []) sz) := by
  refine Met.into (by decide) (Nat.le_of_ble_eq_true rfl) ?_
  intro p e s m below meth c C hsz ls hl hw
  have hl : lv_has ls 2 [(0, .ref (ad 99)), (1, .int x1)] := hl
  clear hsz
  generalize va_A (dO G ad d_ad dw ++ []) sz = A at hw ⊢
  unfold f_X9_byteAt at hf
  refine r_iload0 C hl 1 rfl dX9_byteAt_0 ?_
  refine r_aload0 C hl 0 rfl dX9_byteAt_1 ?_
  refine r_get C hw _ (gx_h dO_o) 26 fl_X9_81 rfl dX9_byteAt_2 ?_
  refine lv_icmp_ge (tgt := 21) C.1 C.2.1 dX9_byteAt_5 (by decide) (fun hc => ?_) (fun hc => ?_)
  · replace hf := ifp hf hc
    refine lv_iconst (v := (-1)) C.1 C.2.1 dX9_byteAt_21 (by decide) ?_
    exact fin_i C hw (Option.some.inj hf) (fun o => o) (fun o => (dO G ad d_ad dw ++ [])) rfl rfl dX9_byteAt_22
  · replace hf := ifn hf hc
    refine r_aload0 C hl 0 rfl dX9_byteAt_8 ?_
    refine r_get C hw _ (gx_h dO_o) 24 fl_X9_44 rfl dX9_byteAt_9 ?_
    refine r_iload0 C hl 1 rfl dX9_byteAt_12 ?_
    obtain ⟨v1_, e1, hf⟩ := bx hf
    refine r_bald C hw _ (gx_h dO_g24) e1 dX9_byteAt_13 ?_
    refine lv_sipush (v := 255) C.1 C.2.1 dX9_byteAt_14 (by decide) ?_
    refine lv_iand C.1 C.2.1 dX9_byteAt_17 ?_
    refine lv_goto (tgt := 22) C.1 C.2.1 dX9_byteAt_18 (by decide) ?_
    exact fin_i C hw (Option.some.inj hf) (fun o => o) (fun o => (dO G ad d_ad dw ++ [])) rfl rfl dX9_byteAt_22
set_option maxHeartbeats 4000000 in
set_option maxRecDepth 100000 in
theorem c_X9_nextWord (l : Launch) (G : GG) (ad : Nat → Nat) (sz : Nat) (d_ad : Pic) (dw : Int64)  (out : Pic × Int64) (hf : f_X9_nextWord d_ad dw = some out) : Met l yX9_nextWord (.code yX9_nextWord cX9_nextWord 1 none :: BT) ({ frames := 1, cells := 0, slots := 0, locals := 22 }) (va_Pc [.ref (ad 99)] (PreW G sz (dO G ad d_ad dw ++ []))) (Don G (va_A (dO G ad d_ad dw ++ []) sz) (dO G ad out.1 out.2 ++ [])) 0 0 (va_A (dO G ad d_ad dw ++ []) sz) := by
  refine Met.into (by decide) (Nat.le_of_ble_eq_true rfl) ?_
  intro p e s m below meth c C hsz ls hl hw
  have hl : lv_has ls 1 [(0, .ref (ad 99))] := hl
  clear hsz
  generalize va_A (dO G ad d_ad dw ++ []) sz = A at hw ⊢
  have hB_91 : ∀ (d_ad : Pic) (dw : Int64) (t0 : Int32), b_X9_nextWord_91   d_ad dw t0 = some out → ∀ (H : Heap) (locs : List Loc), Wd G A s H locs (dO G ad d_ad dw ++ []) → ∀ ls : Array Slot, lv_has ls 1 [] → W p l e ({ frames := 1, cells := 0, slots := 0, locals := 22 }) s m [.ref (ad 99)].toArray below meth c H locs 0 0 (MQ below (Don G A (dO G ad out.1 out.2 ++ [])) [.ref (ad 99)].toArray s 0 0 A) (F0 m 91 ls [.int t0, .ref (ad 99)]) := by
    intro d_ad dw t0 hf H locs hw ls hl
    unfold b_X9_nextWord_91 at hf
    obtain ⟨d_ad4, e4, hf⟩ := bx hf
    refine r_put C hw _ (gx_h dO_o) 28 fp_X9_97 rfl rfl (Nat.le_of_ble_eq_true rfl) (dO G ad d_ad4 dw ++ []) (sx_h dO_o (dO_p28 e4)) dX9_nextWord_91 (fun H locs hw => ?_)
    exact fin_v C hw (Option.some.inj hf) (fun o => (dO G ad o.1 o.2 ++ [])) rfl dX9_nextWord_94
  have hB_58 : ∀ (k5 : Pic → Int64 → Option (Pic × Int64)) (hk5 : ∀ (d_ad : Pic) (dw : Int64), k5 d_ad dw = some out → ∀ (H : Heap) (locs : List Loc), Wd G A s H locs (dO G ad d_ad dw ++ []) → ∀ ls : Array Slot, lv_has ls 1 [(0, .ref (ad 99))] → W p l e ({ frames := 1, cells := 0, slots := 0, locals := 22 }) s m [.ref (ad 99)].toArray below meth c H locs 0 0 (MQ below (Don G A (dO G ad out.1 out.2 ++ [])) [.ref (ad 99)].toArray s 0 0 A) (F0 m 5 ls [])), ∀ (d_ad : Pic) (dw : Int64), b_X9_nextWord_58  k5 d_ad dw = some out → ∀ (H : Heap) (locs : List Loc), Wd G A s H locs (dO G ad d_ad dw ++ []) → ∀ ls : Array Slot, lv_has ls 1 [(0, .ref (ad 99))] → W p l e ({ frames := 1, cells := 0, slots := 0, locals := 22 }) s m [.ref (ad 99)].toArray below meth c H locs 0 0 (MQ below (Don G A (dO G ad out.1 out.2 ++ [])) [.ref (ad 99)].toArray s 0 0 A) (F0 m 58 ls []) := by
    intro k5 hk5 d_ad dw hf H locs hw ls hl
    unfold b_X9_nextWord_58 at hf
    refine r_aload0 C hl 0 rfl dX9_nextWord_58 ?_
    refine lv_dup C.1 C.2.1 dX9_nextWord_59 rfl ?_
    refine r_get C hw _ (gx_h dO_o) 27 fl_X9_87 rfl dX9_nextWord_60 ?_
    refine lv_iconst (v := 1) C.1 C.2.1 dX9_nextWord_63 (by decide) ?_
    refine lv_iadd C.1 C.2.1 dX9_nextWord_64 ?_
    obtain ⟨d_ad5, e5, hf⟩ := bx hf
    refine r_put C hw _ (gx_h dO_o) 27 fp_X9_87 rfl rfl (Nat.le_of_ble_eq_true rfl) (dO G ad d_ad5 dw ++ []) (sx_h dO_o (dO_p27 e5)) dX9_nextWord_65 (fun H locs hw => ?_)
    refine lv_goto (tgt := 5) C.1 C.2.1 dX9_nextWord_68 (by decide) ?_
    exact hk5 d_ad5 dw hf _ _ hw _ (lv_sub hl [0] rfl)
  have hB_5 : ∀ (k5 : Pic → Int64 → Option (Pic × Int64)) (hk5 : ∀ (d_ad : Pic) (dw : Int64), k5 d_ad dw = some out → ∀ (H : Heap) (locs : List Loc), Wd G A s H locs (dO G ad d_ad dw ++ []) → ∀ ls : Array Slot, lv_has ls 1 [(0, .ref (ad 99))] → W p l e ({ frames := 1, cells := 0, slots := 0, locals := 22 }) s m [.ref (ad 99)].toArray below meth c H locs 0 0 (MQ below (Don G A (dO G ad out.1 out.2 ++ [])) [.ref (ad 99)].toArray s 0 0 A) (F0 m 5 ls [])), ∀ (d_ad : Pic) (dw : Int64), b_X9_nextWord_5  k5 d_ad dw = some out → ∀ (H : Heap) (locs : List Loc), Wd G A s H locs (dO G ad d_ad dw ++ []) → ∀ ls : Array Slot, lv_has ls 1 [(0, .ref (ad 99))] → W p l e ({ frames := 1, cells := 0, slots := 0, locals := 22 }) s m [.ref (ad 99)].toArray below meth c H locs 0 0 (MQ below (Don G A (dO G ad out.1 out.2 ++ [])) [.ref (ad 99)].toArray s 0 0 A) (F0 m 5 ls []) := by
    intro k5 hk5 d_ad dw hf H locs hw ls hl
    unfold b_X9_nextWord_5 at hf
    refine r_aload0 C hl 0 rfl dX9_nextWord_5 ?_
    refine r_aload0 C hl 0 rfl dX9_nextWord_6 ?_
    refine r_get C hw _ (gx_h dO_o) 27 fl_X9_87 rfl dX9_nextWord_7 ?_
    obtain ⟨u2, e2, hf⟩ := bx hf
    refine r_callVi (ws' := (dO G ad d_ad dw ++ [])) (As := [.int (gS d_ad 27)]) (rest := []) C hw hl.1 kX9_byteAt ml_X9_90 (c_X9_byteAt l G ad _ d_ad dw (gS d_ad 27) u2 e2) (CutX.take dO_f CutX.none) _ (gx_h dO_o) rfl ⟨rfl, rfl⟩ ⟨Nat.le_of_ble_eq_true rfl, Nat.le_of_ble_eq_true rfl⟩ rfl ⟨Nat.zero_le _, Nat.zero_le _⟩ rfl (Nat.le_of_ble_eq_true rfl) dX9_nextWord_10 (fun H locs hw => ?_)
    refine lv_bipush (v := 97) C.1 C.2.1 dX9_nextWord_13 (by decide) ?_
    refine lv_bipush (v := 122) C.1 C.2.1 dX9_nextWord_15 (by decide) ?_
    obtain ⟨u3, e3, hf⟩ := bx hf
    refine r_callSi (ws' := (dO G ad d_ad dw ++ [])) (As := [.int u2, .int 97, .int 122]) (rest := []) C hw hl.1 kX9_in ml_X9_100 (c_X9_in l G _ u2 97 122 u3 e3) CutX.none ⟨rfl, rfl⟩ ⟨Nat.le_of_ble_eq_true rfl, Nat.le_of_ble_eq_true rfl⟩ rfl ⟨Nat.zero_le _, Nat.zero_le _⟩ rfl (Nat.le_of_ble_eq_true rfl) dX9_nextWord_17 (fun H locs hw => ?_)
    refine lv_if_eq (tgt := 71) C.1 C.2.1 dX9_nextWord_20 (by decide) (fun hc => ?_) (fun hc => ?_)
    · replace hf := ifp hf hc
      refine r_aload0 C hl 0 rfl dX9_nextWord_71 ?_
      refine r_aload0 C hl 0 rfl dX9_nextWord_72 ?_
      refine r_get C hw _ (gx_h dO_o) 27 fl_X9_87 rfl dX9_nextWord_73 ?_
      refine r_aload0 C hl 0 rfl dX9_nextWord_76 ?_
      refine r_get C hw _ (gx_h dO_o) 29 fl_X9_94 rfl dX9_nextWord_77 ?_
      refine lv_isub C.1 C.2.1 dX9_nextWord_80 ?_
      refine lv_bipush (v := 6) C.1 C.2.1 dX9_nextWord_81 (by decide) ?_
      refine lv_icmp_le (tgt := 90) C.1 C.2.1 dX9_nextWord_83 (by decide) (fun hc => ?_) (fun hc => ?_)
      · replace hf := ifp hf hc
        refine lv_iconst (v := 2) C.1 C.2.1 dX9_nextWord_90 (by decide) ?_
        exact hB_91  d_ad dw 2 hf _ _ hw _ (lv_sub hl [] rfl)
      · replace hf := ifn hf hc
        refine lv_iconst (v := 0) C.1 C.2.1 dX9_nextWord_86 (by decide) ?_
        refine lv_goto (tgt := 91) C.1 C.2.1 dX9_nextWord_87 (by decide) ?_
        exact hB_91  d_ad dw 0 hf _ _ hw _ (lv_sub hl [] rfl)
    · replace hf := ifn hf hc
      refine r_aload0 C hl 0 rfl dX9_nextWord_23 ?_
      refine r_get C hw _ (gx_h dO_o) 27 fl_X9_87 rfl dX9_nextWord_24 ?_
      refine r_aload0 C hl 0 rfl dX9_nextWord_27 ?_
      refine r_get C hw _ (gx_h dO_o) 29 fl_X9_94 rfl dX9_nextWord_28 ?_
      refine lv_isub C.1 C.2.1 dX9_nextWord_31 ?_
      refine lv_bipush (v := 6) C.1 C.2.1 dX9_nextWord_32 (by decide) ?_
      refine lv_icmp_ge (tgt := 58) C.1 C.2.1 dX9_nextWord_34 (by decide) (fun hc => ?_) (fun hc => ?_)
      · replace hf := ifp hf hc
        exact hB_58 k5 hk5 d_ad dw hf _ _ hw _ (lv_sub hl [0] rfl)
      · replace hf := ifn hf hc
        refine r_aload0 C hl 0 rfl dX9_nextWord_37 ?_
        refine r_aload0 C hl 0 rfl dX9_nextWord_38 ?_
        refine r_get C hw _ (gx_h dO_o) 32 fl_X9_114 rfl dX9_nextWord_39 ?_
        refine lv_bipush (v := 8) C.1 C.2.1 dX9_nextWord_42 (by decide) ?_
        refine lv_lshl C.1 C.2.1 dX9_nextWord_44 rfl ?_
        refine r_aload0 C hl 0 rfl dX9_nextWord_45 ?_
        refine r_aload0 C hl 0 rfl dX9_nextWord_46 ?_
        refine r_get C hw _ (gx_h dO_o) 27 fl_X9_87 rfl dX9_nextWord_47 ?_
        obtain ⟨u6, e6, hf⟩ := bx hf
        refine r_callVi (ws' := (dO G ad d_ad dw ++ [])) (As := [.int (gS d_ad 27)]) (rest := [.long (dw <<< (Int32.toInt64 8 &&& 63)), .ref (ad 99)]) C hw hl.1 kX9_byteAt ml_X9_90 (c_X9_byteAt l G ad _ d_ad dw (gS d_ad 27) u6 e6) (CutX.take dO_f CutX.none) _ (gx_h dO_o) rfl ⟨rfl, rfl⟩ ⟨Nat.le_of_ble_eq_true rfl, Nat.le_of_ble_eq_true rfl⟩ rfl ⟨Nat.zero_le _, Nat.zero_le _⟩ rfl (Nat.le_of_ble_eq_true rfl) dX9_nextWord_50 (fun H locs hw => ?_)
        refine lv_i2l C.1 C.2.1 dX9_nextWord_53 rfl ?_
        refine lv_lor C.1 C.2.1 dX9_nextWord_54 ?_
        obtain ⟨dw7, e7, hf⟩ := bx hf
        refine r_put C hw _ (gx_h dO_o) 32 fp_X9_114 rfl rfl (Nat.le_of_ble_eq_true rfl) (dO G ad d_ad dw7 ++ []) (sx_h dO_o (dO_p32 e7)) dX9_nextWord_55 (fun H locs hw => ?_)
        exact hB_58 k5 hk5 d_ad dw7 hf _ _ hw _ (lv_sub hl [0] rfl)
  have hL_5 : ∀ n : Nat, ∀ (d_ad : Pic) (dw : Int64), L_X9_nextWord_5   n d_ad dw = some out → ∀ (H : Heap) (locs : List Loc), Wd G A s H locs (dO G ad d_ad dw ++ []) → ∀ ls : Array Slot, lv_has ls 1 [(0, .ref (ad 99))] → W p l e ({ frames := 1, cells := 0, slots := 0, locals := 22 }) s m [.ref (ad 99)].toArray below meth c H locs 0 0 (MQ below (Don G A (dO G ad out.1 out.2 ++ [])) [.ref (ad 99)].toArray s 0 0 A) (F0 m 5 ls []) := by
    intro  n
    induction n with
    | zero => intro d_ad dw hf; cases hf
    | succ n ih => exact hB_5 _ ih
  unfold f_X9_nextWord at hf
  refine r_aload0 C hl 0 rfl dX9_nextWord_0 ?_
  refine lv_lconst (v := 0) C.1 C.2.1 dX9_nextWord_1 (by decide) ?_
  obtain ⟨dw1, e1, hf⟩ := bx hf
  refine r_put C hw _ (gx_h dO_o) 32 fp_X9_114 rfl rfl (Nat.le_of_ble_eq_true rfl) (dO G ad d_ad dw1 ++ []) (sx_h dO_o (dO_p32 e1)) dX9_nextWord_2 (fun H locs hw => ?_)
  exact hL_5  FU d_ad dw1 hf _ _ hw _ (lv_sub hl [0] rfl)
set_option maxHeartbeats 4000000 in
set_option maxRecDepth 100000 in
theorem c_X9_nextWhole (l : Launch) (G : GG) (ad : Nat → Nat) (sz : Nat) (d_ad : Pic) (dw : Int64)  (out : Pic) (hf : f_X9_nextWhole d_ad = some out) : Met l yX9_nextWhole (.code yX9_nextWhole cX9_nextWhole 1 none :: BT) ({ frames := 1, cells := 0, slots := 0, locals := 22 }) (va_Pc [.ref (ad 99)] (PreW G sz (dO G ad d_ad dw ++ []))) (Don G (va_A (dO G ad d_ad dw ++ []) sz) (dO G ad out dw ++ [])) 0 0 (va_A (dO G ad d_ad dw ++ []) sz) := by
  refine Met.into (by decide) (Nat.le_of_ble_eq_true rfl) ?_
  intro p e s m below meth c C hsz ls hl hw
  have hl : lv_has ls 1 [(0, .ref (ad 99))] := hl
  clear hsz
  generalize va_A (dO G ad d_ad dw ++ []) sz = A at hw ⊢
  have hB_91 : ∀ (d_ad : Pic) (t0 : Int32), b_X9_nextWhole_91   d_ad t0 = some out → ∀ (H : Heap) (locs : List Loc), Wd G A s H locs (dO G ad d_ad dw ++ []) → ∀ ls : Array Slot, lv_has ls 1 [] → W p l e ({ frames := 1, cells := 0, slots := 0, locals := 22 }) s m [.ref (ad 99)].toArray below meth c H locs 0 0 (MQ below (Don G A (dO G ad out dw ++ [])) [.ref (ad 99)].toArray s 0 0 A) (F0 m 91 ls [.int t0, .ref (ad 99)]) := by
    intro d_ad t0 hf H locs hw ls hl
    unfold b_X9_nextWhole_91 at hf
    obtain ⟨d_ad4, e4, hf⟩ := bx hf
    refine r_put C hw _ (gx_h dO_o) 28 fp_X9_97 rfl rfl (Nat.le_of_ble_eq_true rfl) (dO G ad d_ad4 dw ++ []) (sx_h dO_o (dO_p28 e4)) dX9_nextWhole_91 (fun H locs hw => ?_)
    exact fin_v C hw (Option.some.inj hf) (fun o => (dO G ad o dw ++ [])) rfl dX9_nextWhole_94
  have hB_59 : ∀ (k5 : Pic → Option (Pic)) (hk5 : ∀ (d_ad : Pic), k5 d_ad = some out → ∀ (H : Heap) (locs : List Loc), Wd G A s H locs (dO G ad d_ad dw ++ []) → ∀ ls : Array Slot, lv_has ls 1 [(0, .ref (ad 99))] → W p l e ({ frames := 1, cells := 0, slots := 0, locals := 22 }) s m [.ref (ad 99)].toArray below meth c H locs 0 0 (MQ below (Don G A (dO G ad out dw ++ [])) [.ref (ad 99)].toArray s 0 0 A) (F0 m 5 ls [])), ∀ (d_ad : Pic), b_X9_nextWhole_59  k5 d_ad = some out → ∀ (H : Heap) (locs : List Loc), Wd G A s H locs (dO G ad d_ad dw ++ []) → ∀ ls : Array Slot, lv_has ls 1 [(0, .ref (ad 99))] → W p l e ({ frames := 1, cells := 0, slots := 0, locals := 22 }) s m [.ref (ad 99)].toArray below meth c H locs 0 0 (MQ below (Don G A (dO G ad out dw ++ [])) [.ref (ad 99)].toArray s 0 0 A) (F0 m 59 ls []) := by
    intro k5 hk5 d_ad hf H locs hw ls hl
    unfold b_X9_nextWhole_59 at hf
    refine r_aload0 C hl 0 rfl dX9_nextWhole_59 ?_
    refine lv_dup C.1 C.2.1 dX9_nextWhole_60 rfl ?_
    refine r_get C hw _ (gx_h dO_o) 27 fl_X9_87 rfl dX9_nextWhole_61 ?_
    refine lv_iconst (v := 1) C.1 C.2.1 dX9_nextWhole_64 (by decide) ?_
    refine lv_iadd C.1 C.2.1 dX9_nextWhole_65 ?_
    obtain ⟨d_ad5, e5, hf⟩ := bx hf
    refine r_put C hw _ (gx_h dO_o) 27 fp_X9_87 rfl rfl (Nat.le_of_ble_eq_true rfl) (dO G ad d_ad5 dw ++ []) (sx_h dO_o (dO_p27 e5)) dX9_nextWhole_66 (fun H locs hw => ?_)
    refine lv_goto (tgt := 5) C.1 C.2.1 dX9_nextWhole_69 (by decide) ?_
    exact hk5 d_ad5 hf _ _ hw _ (lv_sub hl [0] rfl)
  have hB_5 : ∀ (k5 : Pic → Option (Pic)) (hk5 : ∀ (d_ad : Pic), k5 d_ad = some out → ∀ (H : Heap) (locs : List Loc), Wd G A s H locs (dO G ad d_ad dw ++ []) → ∀ ls : Array Slot, lv_has ls 1 [(0, .ref (ad 99))] → W p l e ({ frames := 1, cells := 0, slots := 0, locals := 22 }) s m [.ref (ad 99)].toArray below meth c H locs 0 0 (MQ below (Don G A (dO G ad out dw ++ [])) [.ref (ad 99)].toArray s 0 0 A) (F0 m 5 ls [])), ∀ (d_ad : Pic), b_X9_nextWhole_5  k5 d_ad = some out → ∀ (H : Heap) (locs : List Loc), Wd G A s H locs (dO G ad d_ad dw ++ []) → ∀ ls : Array Slot, lv_has ls 1 [(0, .ref (ad 99))] → W p l e ({ frames := 1, cells := 0, slots := 0, locals := 22 }) s m [.ref (ad 99)].toArray below meth c H locs 0 0 (MQ below (Don G A (dO G ad out dw ++ [])) [.ref (ad 99)].toArray s 0 0 A) (F0 m 5 ls []) := by
    intro k5 hk5 d_ad hf H locs hw ls hl
    unfold b_X9_nextWhole_5 at hf
    refine r_aload0 C hl 0 rfl dX9_nextWhole_5 ?_
    refine r_aload0 C hl 0 rfl dX9_nextWhole_6 ?_
    refine r_get C hw _ (gx_h dO_o) 27 fl_X9_87 rfl dX9_nextWhole_7 ?_
    obtain ⟨u2, e2, hf⟩ := bx hf
    refine r_callVi (ws' := (dO G ad d_ad dw ++ [])) (As := [.int (gS d_ad 27)]) (rest := []) C hw hl.1 kX9_byteAt ml_X9_90 (c_X9_byteAt l G ad _ d_ad dw (gS d_ad 27) u2 e2) (CutX.take dO_f CutX.none) _ (gx_h dO_o) rfl ⟨rfl, rfl⟩ ⟨Nat.le_of_ble_eq_true rfl, Nat.le_of_ble_eq_true rfl⟩ rfl ⟨Nat.zero_le _, Nat.zero_le _⟩ rfl (Nat.le_of_ble_eq_true rfl) dX9_nextWhole_10 (fun H locs hw => ?_)
    refine lv_bipush (v := 48) C.1 C.2.1 dX9_nextWhole_13 (by decide) ?_
    refine lv_bipush (v := 57) C.1 C.2.1 dX9_nextWhole_15 (by decide) ?_
    obtain ⟨u3, e3, hf⟩ := bx hf
    refine r_callSi (ws' := (dO G ad d_ad dw ++ [])) (As := [.int u2, .int 48, .int 57]) (rest := []) C hw hl.1 kX9_in ml_X9_100 (c_X9_in l G _ u2 48 57 u3 e3) CutX.none ⟨rfl, rfl⟩ ⟨Nat.le_of_ble_eq_true rfl, Nat.le_of_ble_eq_true rfl⟩ rfl ⟨Nat.zero_le _, Nat.zero_le _⟩ rfl (Nat.le_of_ble_eq_true rfl) dX9_nextWhole_17 (fun H locs hw => ?_)
    refine lv_if_eq (tgt := 72) C.1 C.2.1 dX9_nextWhole_20 (by decide) (fun hc => ?_) (fun hc => ?_)
    · replace hf := ifp hf hc
      refine r_aload0 C hl 0 rfl dX9_nextWhole_72 ?_
      refine r_aload0 C hl 0 rfl dX9_nextWhole_73 ?_
      refine r_get C hw _ (gx_h dO_o) 27 fl_X9_87 rfl dX9_nextWhole_74 ?_
      refine r_aload0 C hl 0 rfl dX9_nextWhole_77 ?_
      refine r_get C hw _ (gx_h dO_o) 29 fl_X9_94 rfl dX9_nextWhole_78 ?_
      refine lv_isub C.1 C.2.1 dX9_nextWhole_81 ?_
      refine lv_iconst (v := 3) C.1 C.2.1 dX9_nextWhole_82 (by decide) ?_
      refine lv_icmp_le (tgt := 90) C.1 C.2.1 dX9_nextWhole_83 (by decide) (fun hc => ?_) (fun hc => ?_)
      · replace hf := ifp hf hc
        refine lv_iconst (v := 3) C.1 C.2.1 dX9_nextWhole_90 (by decide) ?_
        exact hB_91  d_ad 3 hf _ _ hw _ (lv_sub hl [] rfl)
      · replace hf := ifn hf hc
        refine lv_iconst (v := 0) C.1 C.2.1 dX9_nextWhole_86 (by decide) ?_
        refine lv_goto (tgt := 91) C.1 C.2.1 dX9_nextWhole_87 (by decide) ?_
        exact hB_91  d_ad 0 hf _ _ hw _ (lv_sub hl [] rfl)
    · replace hf := ifn hf hc
      refine r_aload0 C hl 0 rfl dX9_nextWhole_23 ?_
      refine r_get C hw _ (gx_h dO_o) 27 fl_X9_87 rfl dX9_nextWhole_24 ?_
      refine r_aload0 C hl 0 rfl dX9_nextWhole_27 ?_
      refine r_get C hw _ (gx_h dO_o) 29 fl_X9_94 rfl dX9_nextWhole_28 ?_
      refine lv_isub C.1 C.2.1 dX9_nextWhole_31 ?_
      refine lv_iconst (v := 3) C.1 C.2.1 dX9_nextWhole_32 (by decide) ?_
      refine lv_icmp_ge (tgt := 59) C.1 C.2.1 dX9_nextWhole_33 (by decide) (fun hc => ?_) (fun hc => ?_)
      · replace hf := ifp hf hc
        exact hB_59 k5 hk5 d_ad hf _ _ hw _ (lv_sub hl [0] rfl)
      · replace hf := ifn hf hc
        refine r_aload0 C hl 0 rfl dX9_nextWhole_36 ?_
        refine lv_bipush (v := 10) C.1 C.2.1 dX9_nextWhole_37 (by decide) ?_
        refine r_aload0 C hl 0 rfl dX9_nextWhole_39 ?_
        refine r_get C hw _ (gx_h dO_o) 30 fl_X9_118 rfl dX9_nextWhole_40 ?_
        refine lv_imul C.1 C.2.1 dX9_nextWhole_43 ?_
        refine r_aload0 C hl 0 rfl dX9_nextWhole_44 ?_
        refine r_aload0 C hl 0 rfl dX9_nextWhole_45 ?_
        refine r_get C hw _ (gx_h dO_o) 27 fl_X9_87 rfl dX9_nextWhole_46 ?_
        obtain ⟨u6, e6, hf⟩ := bx hf
        refine r_callVi (ws' := (dO G ad d_ad dw ++ [])) (As := [.int (gS d_ad 27)]) (rest := [.int (10 * (gS d_ad 30)), .ref (ad 99)]) C hw hl.1 kX9_byteAt ml_X9_90 (c_X9_byteAt l G ad _ d_ad dw (gS d_ad 27) u6 e6) (CutX.take dO_f CutX.none) _ (gx_h dO_o) rfl ⟨rfl, rfl⟩ ⟨Nat.le_of_ble_eq_true rfl, Nat.le_of_ble_eq_true rfl⟩ rfl ⟨Nat.zero_le _, Nat.zero_le _⟩ rfl (Nat.le_of_ble_eq_true rfl) dX9_nextWhole_49 (fun H locs hw => ?_)
        refine lv_iadd C.1 C.2.1 dX9_nextWhole_52 ?_
        refine lv_bipush (v := 48) C.1 C.2.1 dX9_nextWhole_53 (by decide) ?_
        refine lv_isub C.1 C.2.1 dX9_nextWhole_55 ?_
        obtain ⟨d_ad7, e7, hf⟩ := bx hf
        refine r_put C hw _ (gx_h dO_o) 30 fp_X9_118 rfl rfl (Nat.le_of_ble_eq_true rfl) (dO G ad d_ad7 dw ++ []) (sx_h dO_o (dO_p30 e7)) dX9_nextWhole_56 (fun H locs hw => ?_)
        exact hB_59 k5 hk5 d_ad7 hf _ _ hw _ (lv_sub hl [0] rfl)
  have hL_5 : ∀ n : Nat, ∀ (d_ad : Pic), L_X9_nextWhole_5   n d_ad = some out → ∀ (H : Heap) (locs : List Loc), Wd G A s H locs (dO G ad d_ad dw ++ []) → ∀ ls : Array Slot, lv_has ls 1 [(0, .ref (ad 99))] → W p l e ({ frames := 1, cells := 0, slots := 0, locals := 22 }) s m [.ref (ad 99)].toArray below meth c H locs 0 0 (MQ below (Don G A (dO G ad out dw ++ [])) [.ref (ad 99)].toArray s 0 0 A) (F0 m 5 ls []) := by
    intro  n
    induction n with
    | zero => intro d_ad hf; cases hf
    | succ n ih => exact hB_5 _ ih
  unfold f_X9_nextWhole at hf
  refine r_aload0 C hl 0 rfl dX9_nextWhole_0 ?_
  refine lv_iconst (v := 0) C.1 C.2.1 dX9_nextWhole_1 (by decide) ?_
  obtain ⟨d_ad1, e1, hf⟩ := bx hf
  refine r_put C hw _ (gx_h dO_o) 30 fp_X9_118 rfl rfl (Nat.le_of_ble_eq_true rfl) (dO G ad d_ad1 dw ++ []) (sx_h dO_o (dO_p30 e1)) dX9_nextWhole_2 (fun H locs hw => ?_)
  exact hL_5  FU d_ad1 hf _ _ hw _ (lv_sub hl [0] rfl)
set_option maxHeartbeats 4000000 in
set_option maxRecDepth 100000 in
theorem c_X9_nextSign (l : Launch) (G : GG) (ad : Nat → Nat) (sz : Nat) (d_ad : Pic) (dw : Int64) (x1 : Int32) (out : Pic) (hf : f_X9_nextSign d_ad x1 = some out) : Met l yX9_nextSign (.code yX9_nextSign cX9_nextSign 3 none :: BT) ({ frames := 0, cells := 0, slots := 0, locals := 0 }) (va_Pc [.ref (ad 99), .int x1] (PreW G sz (dO G ad d_ad dw ++ []))) (Don G (va_A (dO G ad d_ad dw ++ []) sz) (dO G ad out dw ++ [])) 0 0 (va_A (dO G ad d_ad dw ++ []) sz) := by
  refine Met.into (by decide) (Nat.le_of_ble_eq_true rfl) ?_
  intro p e s m below meth c C hsz ls hl hw
  have hl : lv_has ls 3 [(0, .ref (ad 99)), (1, .int x1)] := hl
  clear hsz
  generalize va_A (dO G ad d_ad dw ++ []) sz = A at hw ⊢
  have hB_28 : ∀ (d_ad : Pic) (v2 : Int32) (t0 : Int32), b_X9_nextSign_28 x1  d_ad v2 t0 = some out → ∀ (H : Heap) (locs : List Loc), Wd G A s H locs (dO G ad d_ad dw ++ []) → ∀ ls : Array Slot, lv_has ls 3 [(0, .ref (ad 99)), (1, .int x1), (2, .int v2)] → W p l e ({ frames := 0, cells := 0, slots := 0, locals := 0 }) s m [.ref (ad 99), .int x1].toArray below meth c H locs 0 0 (MQ below (Don G A (dO G ad out dw ++ [])) [.ref (ad 99), .int x1].toArray s 0 0 A) (F0 m 28 ls [.int t0, .ref (ad 99)]) := by
    intro d_ad v2 t0 hf H locs hw ls hl
    unfold b_X9_nextSign_28 at hf
    obtain ⟨d_ad1, e1, hf⟩ := bx hf
    refine r_put C hw _ (gx_h dO_o) 28 fp_X9_97 rfl rfl (Nat.le_of_ble_eq_true rfl) (dO G ad d_ad1 dw ++ []) (sx_h dO_o (dO_p28 e1)) dX9_nextSign_28 (fun H locs hw => ?_)
    refine r_aload0 C hl 0 rfl dX9_nextSign_31 ?_
    refine r_iload0 C hl 1 rfl dX9_nextSign_32 ?_
    obtain ⟨d_ad2, e2, hf⟩ := bx hf
    refine r_put C hw _ (gx_h dO_o) 30 fp_X9_118 rfl rfl (Nat.le_of_ble_eq_true rfl) (dO G ad d_ad2 dw ++ []) (sx_h dO_o (dO_p30 e2)) dX9_nextSign_33 (fun H locs hw => ?_)
    refine r_iload0 C hl 2 rfl dX9_nextSign_36 ?_
    refine lv_if_eq (tgt := 50) C.1 C.2.1 dX9_nextSign_37 (by decide) (fun hc => ?_) (fun hc => ?_)
    · replace hf := ifp hf hc
      exact fin_v C hw (Option.some.inj hf) (fun o => (dO G ad o dw ++ [])) rfl dX9_nextSign_50
    · replace hf := ifn hf hc
      refine r_aload0 C hl 0 rfl dX9_nextSign_40 ?_
      refine lv_dup C.1 C.2.1 dX9_nextSign_41 rfl ?_
      refine r_get C hw _ (gx_h dO_o) 27 fl_X9_87 rfl dX9_nextSign_42 ?_
      refine lv_iconst (v := 1) C.1 C.2.1 dX9_nextSign_45 (by decide) ?_
      refine lv_iadd C.1 C.2.1 dX9_nextSign_46 ?_
      obtain ⟨d_ad3, e3, hf⟩ := bx hf
      refine r_put C hw _ (gx_h dO_o) 27 fp_X9_87 rfl rfl (Nat.le_of_ble_eq_true rfl) (dO G ad d_ad3 dw ++ []) (sx_h dO_o (dO_p27 e3)) dX9_nextSign_47 (fun H locs hw => ?_)
      exact fin_v C hw (Option.some.inj hf) (fun o => (dO G ad o dw ++ [])) rfl dX9_nextSign_50
  have hB_17 : ∀ (d_ad : Pic) (t0 : Int32), b_X9_nextSign_17 x1  d_ad t0 = some out → ∀ (H : Heap) (locs : List Loc), Wd G A s H locs (dO G ad d_ad dw ++ []) → ∀ ls : Array Slot, lv_has ls 3 [(0, .ref (ad 99)), (1, .int x1)] → W p l e ({ frames := 0, cells := 0, slots := 0, locals := 0 }) s m [.ref (ad 99), .int x1].toArray below meth c H locs 0 0 (MQ below (Don G A (dO G ad out dw ++ [])) [.ref (ad 99), .int x1].toArray s 0 0 A) (F0 m 17 ls [.int t0]) := by
    intro d_ad t0 hf H locs hw ls hl
    unfold b_X9_nextSign_17 at hf
    refine r_istore0 C hl [(2, .int t0), (0, .ref (ad 99)), (1, .int x1)] (by decide) rfl dX9_nextSign_17 (fun ls hl => ?_)
    refine r_aload0 C hl 1 rfl dX9_nextSign_18 ?_
    refine r_iload0 C hl 0 rfl dX9_nextSign_19 ?_
    refine lv_if_eq (tgt := 27) C.1 C.2.1 dX9_nextSign_20 (by decide) (fun hc => ?_) (fun hc => ?_)
    · replace hf := ifp hf hc
      refine lv_iconst (v := 0) C.1 C.2.1 dX9_nextSign_27 (by decide) ?_
      exact hB_28  d_ad t0 0 hf _ _ hw _ (lv_sub hl [1, 2, 0] rfl)
    · replace hf := ifn hf hc
      refine lv_iconst (v := 4) C.1 C.2.1 dX9_nextSign_23 (by decide) ?_
      refine lv_goto (tgt := 28) C.1 C.2.1 dX9_nextSign_24 (by decide) ?_
      exact hB_28  d_ad t0 4 hf _ _ hw _ (lv_sub hl [1, 2, 0] rfl)
  have hB_12 : ∀ (d_ad : Pic), b_X9_nextSign_12 x1  d_ad = some out → ∀ (H : Heap) (locs : List Loc), Wd G A s H locs (dO G ad d_ad dw ++ []) → ∀ ls : Array Slot, lv_has ls 3 [(0, .ref (ad 99)), (1, .int x1)] → W p l e ({ frames := 0, cells := 0, slots := 0, locals := 0 }) s m [.ref (ad 99), .int x1].toArray below meth c H locs 0 0 (MQ below (Don G A (dO G ad out dw ++ [])) [.ref (ad 99), .int x1].toArray s 0 0 A) (F0 m 12 ls []) := by
    intro d_ad hf H locs hw ls hl
    unfold b_X9_nextSign_12 at hf
    refine lv_iconst (v := 1) C.1 C.2.1 dX9_nextSign_12 (by decide) ?_
    refine lv_goto (tgt := 17) C.1 C.2.1 dX9_nextSign_13 (by decide) ?_
    exact hB_17  d_ad 1 hf _ _ hw _ (lv_sub hl [0, 1] rfl)
  unfold f_X9_nextSign at hf
  refine r_iload0 C hl 1 rfl dX9_nextSign_0 ?_
  refine lv_bipush (v := 59) C.1 C.2.1 dX9_nextSign_1 (by decide) ?_
  refine lv_icmp_eq (tgt := 12) C.1 C.2.1 dX9_nextSign_3 (by decide) (fun hc => ?_) (fun hc => ?_)
  · replace hf := ifp hf hc
    exact hB_12  d_ad hf _ _ hw _ (lv_sub hl [0, 1] rfl)
  · replace hf := ifn hf hc
    refine r_iload0 C hl 1 rfl dX9_nextSign_6 ?_
    refine lv_bipush (v := 44) C.1 C.2.1 dX9_nextSign_7 (by decide) ?_
    refine lv_icmp_ne (tgt := 16) C.1 C.2.1 dX9_nextSign_9 (by decide) (fun hc => ?_) (fun hc => ?_)
    · replace hf := ifn hf hc
      refine lv_iconst (v := 0) C.1 C.2.1 dX9_nextSign_16 (by decide) ?_
      exact hB_17  d_ad 0 hf _ _ hw _ (lv_sub hl [0, 1] rfl)
    · replace hf := ifp hf hc
      exact hB_12  d_ad hf _ _ hw _ (lv_sub hl [0, 1] rfl)
set_option maxHeartbeats 4000000 in
set_option maxRecDepth 100000 in
theorem c_X9_flaw (l : Launch) (G : GG) (ad : Nat → Nat) (sz : Nat) (d_ad : Pic) (dw : Int64) (x1 : Int32) (out : Pic) (hf : f_X9_flaw d_ad x1 = some out) : Met l yX9_flaw (.code yX9_flaw cX9_flaw 2 none :: BT) ({ frames := 0, cells := 0, slots := 0, locals := 0 }) (va_Pc [.ref (ad 99), .int x1] (PreW G sz (dO G ad d_ad dw ++ []))) (Don G (va_A (dO G ad d_ad dw ++ []) sz) (dO G ad out dw ++ [])) 0 0 (va_A (dO G ad d_ad dw ++ []) sz) := by
  refine Met.into (by decide) (Nat.le_of_ble_eq_true rfl) ?_
  intro p e s m below meth c C hsz ls hl hw
  have hl : lv_has ls 2 [(0, .ref (ad 99)), (1, .int x1)] := hl
  clear hsz
  generalize va_A (dO G ad d_ad dw ++ []) sz = A at hw ⊢
  have hB_12 : ∀ (d_ad : Pic), b_X9_flaw_12 x1  d_ad = some out → ∀ (H : Heap) (locs : List Loc), Wd G A s H locs (dO G ad d_ad dw ++ []) → ∀ ls : Array Slot, lv_has ls 2 [(0, .ref (ad 99))] → W p l e ({ frames := 0, cells := 0, slots := 0, locals := 0 }) s m [.ref (ad 99), .int x1].toArray below meth c H locs 0 0 (MQ below (Don G A (dO G ad out dw ++ [])) [.ref (ad 99), .int x1].toArray s 0 0 A) (F0 m 12 ls []) := by
    intro d_ad hf H locs hw ls hl
    unfold b_X9_flaw_12 at hf
    refine r_aload0 C hl 0 rfl dX9_flaw_12 ?_
    refine lv_iconst (v := 0) C.1 C.2.1 dX9_flaw_13 (by decide) ?_
    obtain ⟨d_ad1, e1, hf⟩ := bx hf
    refine r_put C hw _ (gx_h dO_o) 28 fp_X9_97 rfl rfl (Nat.le_of_ble_eq_true rfl) (dO G ad d_ad1 dw ++ []) (sx_h dO_o (dO_p28 e1)) dX9_flaw_14 (fun H locs hw => ?_)
    exact fin_v C hw (Option.some.inj hf) (fun o => (dO G ad o dw ++ [])) rfl dX9_flaw_17
  unfold f_X9_flaw at hf
  refine r_aload0 C hl 0 rfl dX9_flaw_0 ?_
  refine r_get C hw _ (gx_h dO_o) 31 fl_X9_84 rfl dX9_flaw_1 ?_
  refine lv_if_ne (tgt := 12) C.1 C.2.1 dX9_flaw_4 (by decide) (fun hc => ?_) (fun hc => ?_)
  · replace hf := ifn hf hc
    exact hB_12  d_ad hf _ _ hw _ (lv_sub hl [0] rfl)
  · replace hf := ifp hf hc
    refine r_aload0 C hl 0 rfl dX9_flaw_7 ?_
    refine r_iload0 C hl 1 rfl dX9_flaw_8 ?_
    obtain ⟨d_ad2, e2, hf⟩ := bx hf
    refine r_put C hw _ (gx_h dO_o) 31 fp_X9_84 rfl rfl (Nat.le_of_ble_eq_true rfl) (dO G ad d_ad2 dw ++ []) (sx_h dO_o (dO_p31 e2)) dX9_flaw_9 (fun H locs hw => ?_)
    exact hB_12  d_ad2 hf _ _ hw _ (lv_sub hl [0] rfl)
set_option maxHeartbeats 4000000 in
set_option maxRecDepth 100000 in
theorem c_X9_isSign (l : Launch) (G : GG) (ad : Nat → Nat) (sz : Nat) (d_ad : Pic) (dw : Int64) (x1 : Int32) (out : Int32) (hf : f_X9_isSign d_ad x1 = some out) : Met l yX9_isSign (.code yX9_isSign cX9_isSign 2 (some .boolean) :: BT) ({ frames := 0, cells := 0, slots := 0, locals := 0 }) (va_Pc [.ref (ad 99), .int x1] (PreW G sz (dO G ad d_ad dw ++ []))) (Ans G out (va_A (dO G ad d_ad dw ++ []) sz) (dO G ad d_ad dw ++ [])) 0 0 (va_A (dO G ad d_ad dw ++ []) sz) := by
  refine Met.into (by decide) (Nat.le_of_ble_eq_true rfl) ?_
  intro p e s m below meth c C hsz ls hl hw
  have hl : lv_has ls 2 [(0, .ref (ad 99)), (1, .int x1)] := hl
  clear hsz
  generalize va_A (dO G ad d_ad dw ++ []) sz = A at hw ⊢
  unfold f_X9_isSign at hf
  refine r_aload0 C hl 0 rfl dX9_isSign_0 ?_
  refine r_get C hw _ (gx_h dO_o) 28 fl_X9_97 rfl dX9_isSign_1 ?_
  refine lv_iconst (v := 4) C.1 C.2.1 dX9_isSign_4 (by decide) ?_
  refine lv_icmp_ne (tgt := 20) C.1 C.2.1 dX9_isSign_5 (by decide) (fun hc => ?_) (fun hc => ?_)
  · replace hf := ifn hf hc
    refine lv_iconst (v := 0) C.1 C.2.1 dX9_isSign_20 (by decide) ?_
    exact fin_z C hw (by decide) (Option.some.inj hf) (fun o => o) (fun o => (dO G ad d_ad dw ++ [])) rfl rfl dX9_isSign_21
  · replace hf := ifp hf hc
    refine r_aload0 C hl 0 rfl dX9_isSign_8 ?_
    refine r_get C hw _ (gx_h dO_o) 30 fl_X9_118 rfl dX9_isSign_9 ?_
    refine r_iload0 C hl 1 rfl dX9_isSign_12 ?_
    refine lv_icmp_ne (tgt := 20) C.1 C.2.1 dX9_isSign_13 (by decide) (fun hc => ?_) (fun hc => ?_)
    · replace hf := ifn hf hc
      refine lv_iconst (v := 0) C.1 C.2.1 dX9_isSign_20 (by decide) ?_
      exact fin_z C hw (by decide) (Option.some.inj hf) (fun o => o) (fun o => (dO G ad d_ad dw ++ [])) rfl rfl dX9_isSign_21
    · replace hf := ifp hf hc
      refine lv_iconst (v := 1) C.1 C.2.1 dX9_isSign_16 (by decide) ?_
      refine lv_goto (tgt := 21) C.1 C.2.1 dX9_isSign_17 (by decide) ?_
      exact fin_z C hw (by decide) (Option.some.inj hf) (fun o => o) (fun o => (dO G ad d_ad dw ++ [])) rfl rfl dX9_isSign_21
set_option maxHeartbeats 4000000 in
set_option maxRecDepth 100000 in
theorem c_X9_wholeAt (l : Launch) (G : GG) (ad : Nat → Nat) (sz : Nat) (d_ad : Pic) (dw : Int64) (x1 x2 : Int32) (out : Int32 × Pic) (hf : f_X9_wholeAt d_ad x1 x2 = some out) : Met l yX9_wholeAt (.code yX9_wholeAt cX9_wholeAt 3 (some .int) :: BT) ({ frames := 1, cells := 0, slots := 0, locals := 22 }) (va_Pc [.ref (ad 99), .int x1, .int x2] (PreW G sz (dO G ad d_ad dw ++ []))) (Ans G out.1 (va_A (dO G ad d_ad dw ++ []) sz) (dO G ad out.2 dw ++ [])) 0 0 (va_A (dO G ad d_ad dw ++ []) sz) := by
  refine Met.into (by decide) (Nat.le_of_ble_eq_true rfl) ?_
  intro p e s m below meth c C hsz ls hl hw
  have hl : lv_has ls 3 [(0, .ref (ad 99)), (1, .int x1), (2, .int x2)] := hl
  clear hsz
  generalize va_A (dO G ad d_ad dw ++ []) sz = A at hw ⊢
  have hB_33 : ∀ (d_ad : Pic), b_X9_wholeAt_33 x1 x2  d_ad = some out → ∀ (H : Heap) (locs : List Loc), Wd G A s H locs (dO G ad d_ad dw ++ []) → ∀ ls : Array Slot, lv_has ls 3 [(0, .ref (ad 99)), (1, .int x1)] → W p l e ({ frames := 1, cells := 0, slots := 0, locals := 22 }) s m [.ref (ad 99), .int x1, .int x2].toArray below meth c H locs 0 0 (MQ below (Ans G out.1 A (dO G ad out.2 dw ++ [])) [.ref (ad 99), .int x1, .int x2].toArray s 0 0 A) (F0 m 33 ls []) := by
    intro d_ad hf H locs hw ls hl
    unfold b_X9_wholeAt_33 at hf
    refine r_aload0 C hl 0 rfl dX9_wholeAt_33 ?_
    refine r_get C hw _ (gx_h dO_o) 31 fl_X9_84 rfl dX9_wholeAt_34 ?_
    refine lv_if_le (tgt := 44) C.1 C.2.1 dX9_wholeAt_37 (by decide) (fun hc => ?_) (fun hc => ?_)
    · replace hf := ifp hf hc
      refine r_aload0 C hl 0 rfl dX9_wholeAt_44 ?_
      refine r_get C hw _ (gx_h dO_o) 30 fl_X9_118 rfl dX9_wholeAt_45 ?_
      exact fin_i C hw (Option.some.inj hf) (fun o => o.1) (fun o => (dO G ad o.2 dw ++ [])) rfl rfl dX9_wholeAt_48
    · replace hf := ifn hf hc
      refine r_iload0 C hl 1 rfl dX9_wholeAt_40 ?_
      refine lv_goto (tgt := 48) C.1 C.2.1 dX9_wholeAt_41 (by decide) ?_
      exact fin_i C hw (Option.some.inj hf) (fun o => o.1) (fun o => (dO G ad o.2 dw ++ [])) rfl rfl dX9_wholeAt_48
  unfold f_X9_wholeAt at hf
  refine r_aload0 C hl 0 rfl dX9_wholeAt_0 ?_
  refine r_get C hw _ (gx_h dO_o) 28 fl_X9_97 rfl dX9_wholeAt_1 ?_
  refine lv_iconst (v := 3) C.1 C.2.1 dX9_wholeAt_4 (by decide) ?_
  refine lv_icmp_eq (tgt := 16) C.1 C.2.1 dX9_wholeAt_5 (by decide) (fun hc => ?_) (fun hc => ?_)
  · replace hf := ifp hf hc
    refine r_aload0 C hl 0 rfl dX9_wholeAt_16 ?_
    refine r_get C hw _ (gx_h dO_o) 30 fl_X9_118 rfl dX9_wholeAt_17 ?_
    refine r_iload0 C hl 1 rfl dX9_wholeAt_20 ?_
    refine r_iload0 C hl 2 rfl dX9_wholeAt_21 ?_
    obtain ⟨u1, e1, hf⟩ := bx hf
    refine r_callSi (ws' := (dO G ad d_ad dw ++ [])) (As := [.int (gS d_ad 30), .int x1, .int x2]) (rest := []) C hw hl.1 kX9_in ml_X9_100 (c_X9_in l G _ (gS d_ad 30) x1 x2 u1 e1) CutX.none ⟨rfl, rfl⟩ ⟨Nat.le_of_ble_eq_true rfl, Nat.le_of_ble_eq_true rfl⟩ rfl ⟨Nat.zero_le _, Nat.zero_le _⟩ rfl (Nat.le_of_ble_eq_true rfl) dX9_wholeAt_22 (fun H locs hw => ?_)
    refine lv_if_ne (tgt := 33) C.1 C.2.1 dX9_wholeAt_25 (by decide) (fun hc => ?_) (fun hc => ?_)
    · replace hf := ifn hf hc
      exact hB_33  d_ad hf _ _ hw _ (lv_sub hl [0, 1] rfl)
    · replace hf := ifp hf hc
      refine r_aload0 C hl 0 rfl dX9_wholeAt_28 ?_
      refine lv_iconst (v := 2) C.1 C.2.1 dX9_wholeAt_29 (by decide) ?_
      obtain ⟨u2, e2, hf⟩ := bx hf
      refine r_callVv (ws' := (dO G ad u2 dw ++ [])) (As := [.int 2]) (rest := []) C hw hl.1 kX9_flaw ml_X9_131 (c_X9_flaw l G ad _ d_ad dw 2 u2 e2) (CutX.take dO_f CutX.none) _ (gx_h dO_o) rfl ⟨rfl, rfl⟩ ⟨Nat.le_of_ble_eq_true rfl, Nat.le_of_ble_eq_true rfl⟩ rfl ⟨Nat.zero_le _, Nat.zero_le _⟩ rfl (Nat.le_of_ble_eq_true rfl) dX9_wholeAt_30 (fun H locs hw => ?_)
      exact hB_33  u2 hf _ _ hw _ (lv_sub hl [0, 1] rfl)
  · replace hf := ifn hf hc
    refine r_aload0 C hl 0 rfl dX9_wholeAt_8 ?_
    refine lv_iconst (v := 1) C.1 C.2.1 dX9_wholeAt_9 (by decide) ?_
    obtain ⟨u3, e3, hf⟩ := bx hf
    refine r_callVv (ws' := (dO G ad u3 dw ++ [])) (As := [.int 1]) (rest := []) C hw hl.1 kX9_flaw ml_X9_131 (c_X9_flaw l G ad _ d_ad dw 1 u3 e3) (CutX.take dO_f CutX.none) _ (gx_h dO_o) rfl ⟨rfl, rfl⟩ ⟨Nat.le_of_ble_eq_true rfl, Nat.le_of_ble_eq_true rfl⟩ rfl ⟨Nat.zero_le _, Nat.zero_le _⟩ rfl (Nat.le_of_ble_eq_true rfl) dX9_wholeAt_10 (fun H locs hw => ?_)
    refine lv_goto (tgt := 33) C.1 C.2.1 dX9_wholeAt_13 (by decide) ?_
    exact hB_33  u3 hf _ _ hw _ (lv_sub hl [0, 1] rfl)
set_option maxHeartbeats 4000000 in
set_option maxRecDepth 100000 in
theorem c_X9_feed (l : Launch) (G : GG) (ad : Nat → Nat) (sz : Nat) (d_ad : Pic) (dw : Int64) (x1 x2 x3 x4 x5 : Int32) (out : Int32 × Pic) (hf : f_X9_feed d_ad x1 x2 x3 x4 x5 = some out) : Met l yX9_feed (.code yX9_feed cX9_feed 8 (some .int) :: BT) ({ frames := 0, cells := 0, slots := 0, locals := 0 }) (va_Pc [.ref (ad 99), .int x1, .int x2, .int x3, .int x4, .int x5] (PreW G sz (dO G ad d_ad dw ++ []))) (Ans G out.1 (va_A (dO G ad d_ad dw ++ []) sz) (dO G ad out.2 dw ++ [])) 0 0 (va_A (dO G ad d_ad dw ++ []) sz) := by
  refine Met.into (by decide) (Nat.le_of_ble_eq_true rfl) ?_
  intro p e s m below meth c C hsz ls hl hw
  have hl : lv_has ls 8 [(0, .ref (ad 99)), (1, .int x1), (2, .int x2), (3, .int x3), (4, .int x4), (5, .int x5)] := hl
  clear hsz
  generalize va_A (dO G ad d_ad dw ++ []) sz = A at hw ⊢
  have hB_76 : ∀ (k23 : Pic → Int32 → Option (Int32 × Pic)) (hk23 : ∀ (d_ad : Pic) (v6 : Int32), k23 d_ad v6 = some out → ∀ (H : Heap) (locs : List Loc), Wd G A s H locs (dO G ad d_ad dw ++ []) → ∀ ls : Array Slot, lv_has ls 8 [(0, .ref (ad 99)), (1, .int x1), (2, .int x2), (3, .int x3), (4, .int x4), (5, .int x5), (6, .int v6)] → W p l e ({ frames := 0, cells := 0, slots := 0, locals := 0 }) s m [.ref (ad 99), .int x1, .int x2, .int x3, .int x4, .int x5].toArray below meth c H locs 0 0 (MQ below (Ans G out.1 A (dO G ad out.2 dw ++ [])) [.ref (ad 99), .int x1, .int x2, .int x3, .int x4, .int x5].toArray s 0 0 A) (F0 m 23 ls [])), ∀ (d_ad : Pic) (v6 : Int32) (t0 : Int32), b_X9_feed_76 x1 x2 x3 x4 x5 k23 d_ad v6 t0 = some out → ∀ (H : Heap) (locs : List Loc), Wd G A s H locs (dO G ad d_ad dw ++ []) → ∀ ls : Array Slot, lv_has ls 8 [(0, .ref (ad 99)), (1, .int x1), (2, .int x2), (3, .int x3), (4, .int x4), (5, .int x5), (6, .int v6)] → W p l e ({ frames := 0, cells := 0, slots := 0, locals := 0 }) s m [.ref (ad 99), .int x1, .int x2, .int x3, .int x4, .int x5].toArray below meth c H locs 0 0 (MQ below (Ans G out.1 A (dO G ad out.2 dw ++ [])) [.ref (ad 99), .int x1, .int x2, .int x3, .int x4, .int x5].toArray s 0 0 A) (F0 m 76 ls [.int t0]) := by
    intro k23 hk23 d_ad v6 t0 hf H locs hw ls hl
    unfold b_X9_feed_76 at hf
    refine r_istore C hl [(7, .int t0), (0, .ref (ad 99)), (1, .int x1), (2, .int x2), (3, .int x3), (4, .int x4), (5, .int x5), (6, .int v6)] (by decide) rfl dX9_feed_76 (fun ls hl => ?_)
    refine r_aload0 C hl 1 rfl dX9_feed_78 ?_
    refine r_get C hw _ (gx_h dO_o) 24 fl_X9_44 rfl dX9_feed_79 ?_
    refine r_aload0 C hl 1 rfl dX9_feed_82 ?_
    refine r_get C hw _ (gx_h dO_o) 25 fl_X9_207 rfl dX9_feed_83 ?_
    refine r_iload C hl 0 rfl dX9_feed_86 ?_
    refine lv_bipush (v := 24) C.1 C.2.1 dX9_feed_88 (by decide) ?_
    refine lv_bipush (v := 8) C.1 C.2.1 dX9_feed_90 (by decide) ?_
    refine r_iload C hl 7 rfl dX9_feed_92 ?_
    refine lv_iconst (v := 4) C.1 C.2.1 dX9_feed_94 (by decide) ?_
    obtain ⟨v2_, e2, hf⟩ := bx hf
    refine r_irem C e2 dX9_feed_95 ?_
    refine lv_imul C.1 C.2.1 dX9_feed_96 ?_
    refine lv_isub C.1 C.2.1 dX9_feed_97 ?_
    refine lv_ishr C.1 C.2.1 dX9_feed_98 ?_
    refine lv_i2b C.1 C.2.1 dX9_feed_99 rfl ?_
    obtain ⟨d_ad3, e3, hf⟩ := bx hf
    refine r_bast C hw _ (gx_h dO_g24) e3 (dO G ad d_ad3 dw ++ []) (fun h => (sx_h dO_g24 (dO_s24 h))) dX9_feed_100 (fun H locs hw => ?_)
    refine r_aload0 C hl 1 rfl dX9_feed_101 ?_
    refine lv_dup C.1 C.2.1 dX9_feed_102 rfl ?_
    refine r_get C hw _ (gx_h dO_o) 25 fl_X9_207 rfl dX9_feed_103 ?_
    refine lv_iconst (v := 1) C.1 C.2.1 dX9_feed_106 (by decide) ?_
    refine lv_iadd C.1 C.2.1 dX9_feed_107 ?_
    obtain ⟨d_ad4, e4, hf⟩ := bx hf
    refine r_put C hw _ (gx_h dO_o) 25 fp_X9_207 rfl rfl (Nat.le_of_ble_eq_true rfl) (dO G ad d_ad4 dw ++ []) (sx_h dO_o (dO_p25 e4)) dX9_feed_108 (fun H locs hw => ?_)
    refine r_iinc C hl 7 (v6 + 1) [(6, .int (v6 + 1)), (7, .int t0), (0, .ref (ad 99)), (1, .int x1), (2, .int x2), (3, .int x3), (4, .int x4), (5, .int x5)] rfl (iinc_e (by decide)) (by decide) rfl dX9_feed_111 (fun ls hl => ?_)
    refine lv_goto (tgt := 23) C.1 C.2.1 dX9_feed_114 (by decide) ?_
    exact hk23 d_ad4 (v6 + 1) hf _ _ hw _ (lv_sub hl [2, 3, 4, 5, 6, 7, 0] rfl)
  have hB_23 : ∀ (k23 : Pic → Int32 → Option (Int32 × Pic)) (hk23 : ∀ (d_ad : Pic) (v6 : Int32), k23 d_ad v6 = some out → ∀ (H : Heap) (locs : List Loc), Wd G A s H locs (dO G ad d_ad dw ++ []) → ∀ ls : Array Slot, lv_has ls 8 [(0, .ref (ad 99)), (1, .int x1), (2, .int x2), (3, .int x3), (4, .int x4), (5, .int x5), (6, .int v6)] → W p l e ({ frames := 0, cells := 0, slots := 0, locals := 0 }) s m [.ref (ad 99), .int x1, .int x2, .int x3, .int x4, .int x5].toArray below meth c H locs 0 0 (MQ below (Ans G out.1 A (dO G ad out.2 dw ++ [])) [.ref (ad 99), .int x1, .int x2, .int x3, .int x4, .int x5].toArray s 0 0 A) (F0 m 23 ls [])), ∀ (d_ad : Pic) (v6 : Int32), b_X9_feed_23 x1 x2 x3 x4 x5 k23 d_ad v6 = some out → ∀ (H : Heap) (locs : List Loc), Wd G A s H locs (dO G ad d_ad dw ++ []) → ∀ ls : Array Slot, lv_has ls 8 [(0, .ref (ad 99)), (1, .int x1), (2, .int x2), (3, .int x3), (4, .int x4), (5, .int x5), (6, .int v6)] → W p l e ({ frames := 0, cells := 0, slots := 0, locals := 0 }) s m [.ref (ad 99), .int x1, .int x2, .int x3, .int x4, .int x5].toArray below meth c H locs 0 0 (MQ below (Ans G out.1 A (dO G ad out.2 dw ++ [])) [.ref (ad 99), .int x1, .int x2, .int x3, .int x4, .int x5].toArray s 0 0 A) (F0 m 23 ls []) := by
    intro k23 hk23 d_ad v6 hf H locs hw ls hl
    unfold b_X9_feed_23 at hf
    refine r_iload C hl 6 rfl dX9_feed_23 ?_
    refine lv_bipush (v := 20) C.1 C.2.1 dX9_feed_25 (by decide) ?_
    refine lv_icmp_ge (tgt := 117) C.1 C.2.1 dX9_feed_27 (by decide) (fun hc => ?_) (fun hc => ?_)
    · replace hf := ifp hf hc
      refine r_aload0 C hl 0 rfl dX9_feed_117 ?_
      refine r_get C hw _ (gx_h dO_o) 25 fl_X9_207 rfl dX9_feed_118 ?_
      exact fin_i C hw (Option.some.inj hf) (fun o => o.1) (fun o => (dO G ad o.2 dw ++ [])) rfl rfl dX9_feed_121
    · replace hf := ifn hf hc
      refine r_iload C hl 6 rfl dX9_feed_30 ?_
      refine lv_iconst (v := 4) C.1 C.2.1 dX9_feed_32 (by decide) ?_
      refine lv_icmp_ge (tgt := 40) C.1 C.2.1 dX9_feed_33 (by decide) (fun hc => ?_) (fun hc => ?_)
      · replace hf := ifp hf hc
        refine r_iload C hl 6 rfl dX9_feed_40 ?_
        refine lv_bipush (v := 8) C.1 C.2.1 dX9_feed_42 (by decide) ?_
        refine lv_icmp_ge (tgt := 51) C.1 C.2.1 dX9_feed_44 (by decide) (fun hc => ?_) (fun hc => ?_)
        · replace hf := ifp hf hc
          refine r_iload C hl 6 rfl dX9_feed_51 ?_
          refine lv_bipush (v := 12) C.1 C.2.1 dX9_feed_53 (by decide) ?_
          refine lv_icmp_ge (tgt := 62) C.1 C.2.1 dX9_feed_55 (by decide) (fun hc => ?_) (fun hc => ?_)
          · replace hf := ifp hf hc
            refine r_iload C hl 6 rfl dX9_feed_62 ?_
            refine lv_bipush (v := 16) C.1 C.2.1 dX9_feed_64 (by decide) ?_
            refine lv_icmp_ge (tgt := 74) C.1 C.2.1 dX9_feed_66 (by decide) (fun hc => ?_) (fun hc => ?_)
            · replace hf := ifp hf hc
              refine r_iload C hl 5 rfl dX9_feed_74 ?_
              exact hB_76 k23 hk23 d_ad v6 x5 hf _ _ hw _ (lv_sub hl [0, 1, 2, 3, 4, 5, 6] rfl)
            · replace hf := ifn hf hc
              refine r_iload C hl 4 rfl dX9_feed_69 ?_
              refine lv_goto (tgt := 76) C.1 C.2.1 dX9_feed_71 (by decide) ?_
              exact hB_76 k23 hk23 d_ad v6 x4 hf _ _ hw _ (lv_sub hl [0, 1, 2, 3, 4, 5, 6] rfl)
          · replace hf := ifn hf hc
            refine r_iload0 C hl 3 rfl dX9_feed_58 ?_
            refine lv_goto (tgt := 76) C.1 C.2.1 dX9_feed_59 (by decide) ?_
            exact hB_76 k23 hk23 d_ad v6 x3 hf _ _ hw _ (lv_sub hl [0, 1, 2, 3, 4, 5, 6] rfl)
        · replace hf := ifn hf hc
          refine r_iload0 C hl 2 rfl dX9_feed_47 ?_
          refine lv_goto (tgt := 76) C.1 C.2.1 dX9_feed_48 (by decide) ?_
          exact hB_76 k23 hk23 d_ad v6 x2 hf _ _ hw _ (lv_sub hl [0, 1, 2, 3, 4, 5, 6] rfl)
      · replace hf := ifn hf hc
        refine r_iload0 C hl 1 rfl dX9_feed_36 ?_
        refine lv_goto (tgt := 76) C.1 C.2.1 dX9_feed_37 (by decide) ?_
        exact hB_76 k23 hk23 d_ad v6 x1 hf _ _ hw _ (lv_sub hl [0, 1, 2, 3, 4, 5, 6] rfl)
  have hL_23 : ∀ n : Nat, ∀ (d_ad : Pic) (v6 : Int32), L_X9_feed_23 x1 x2 x3 x4 x5  n d_ad v6 = some out → ∀ (H : Heap) (locs : List Loc), Wd G A s H locs (dO G ad d_ad dw ++ []) → ∀ ls : Array Slot, lv_has ls 8 [(0, .ref (ad 99)), (1, .int x1), (2, .int x2), (3, .int x3), (4, .int x4), (5, .int x5), (6, .int v6)] → W p l e ({ frames := 0, cells := 0, slots := 0, locals := 0 }) s m [.ref (ad 99), .int x1, .int x2, .int x3, .int x4, .int x5].toArray below meth c H locs 0 0 (MQ below (Ans G out.1 A (dO G ad out.2 dw ++ [])) [.ref (ad 99), .int x1, .int x2, .int x3, .int x4, .int x5].toArray s 0 0 A) (F0 m 23 ls []) := by
    intro  n
    induction n with
    | zero => intro d_ad v6 hf; cases hf
    | succ n ih => exact hB_23 _ ih
  unfold f_X9_feed at hf
  refine r_aload0 C hl 0 rfl dX9_feed_0 ?_
  refine lv_iconst (v := 0) C.1 C.2.1 dX9_feed_1 (by decide) ?_
  obtain ⟨d_ad1, e1, hf⟩ := bx hf
  refine r_put C hw _ (gx_h dO_o) 0 fp_X9_75 rfl rfl (Nat.le_of_ble_eq_true rfl) (dO G ad d_ad1 dw ++ []) (sx_h dO_o (dO_p0 e1)) dX9_feed_2 (fun H locs hw => ?_)
  refine r_aload0 C hl 0 rfl dX9_feed_5 ?_
  refine r_get C hw _ (gx_h dO_o) 25 fl_X9_207 rfl dX9_feed_6 ?_
  refine lv_bipush (v := 20) C.1 C.2.1 dX9_feed_9 (by decide) ?_
  refine lv_iadd C.1 C.2.1 dX9_feed_11 ?_
  refine lv_sipush (v := 900) C.1 C.2.1 dX9_feed_12 (by decide) ?_
  refine lv_icmp_le (tgt := 20) C.1 C.2.1 dX9_feed_15 (by decide) (fun hc => ?_) (fun hc => ?_)
  · replace hf := ifp hf hc
    refine lv_iconst (v := 0) C.1 C.2.1 dX9_feed_20 (by decide) ?_
    refine r_istore C hl [(6, .int 0), (0, .ref (ad 99)), (1, .int x1), (2, .int x2), (3, .int x3), (4, .int x4), (5, .int x5)] (by decide) rfl dX9_feed_21 (fun ls hl => ?_)
    exact hL_23  FU d_ad1 0 hf _ _ hw _ (lv_sub hl [1, 2, 3, 4, 5, 6, 0] rfl)
  · replace hf := ifn hf hc
    refine lv_iconst (v := (-1)) C.1 C.2.1 dX9_feed_18 (by decide) ?_
    exact fin_i C hw (Option.some.inj hf) (fun o => o.1) (fun o => (dO G ad o.2 dw ++ [])) rfl rfl dX9_feed_19
set_option maxHeartbeats 4000000 in
set_option maxRecDepth 100000 in
theorem c_X9_clears (l : Launch) (G : GG) (ad : Nat → Nat) (sz : Nat) (d_ad : Pic) (dw : Int64)  (out : Pic) (hf : f_X9_clears d_ad = some out) : Met l yX9_clears (.code yX9_clears cX9_clears 2 none :: BT) ({ frames := 1, cells := 0, slots := 0, locals := 22 }) (va_Pc [.ref (ad 99)] (PreW G sz (dO G ad d_ad dw ++ []))) (Don G (va_A (dO G ad d_ad dw ++ []) sz) (dO G ad out dw ++ [])) 0 0 (va_A (dO G ad d_ad dw ++ []) sz) := by
  refine Met.into (by decide) (Nat.le_of_ble_eq_true rfl) ?_
  intro p e s m below meth c C hsz ls hl hw
  have hl : lv_has ls 2 [(0, .ref (ad 99))] := hl
  clear hsz
  generalize va_A (dO G ad d_ad dw ++ []) sz = A at hw ⊢
  have hB_2 : ∀ (k2 : Pic → Int32 → Option (Pic)) (hk2 : ∀ (d_ad : Pic) (v1 : Int32), k2 d_ad v1 = some out → ∀ (H : Heap) (locs : List Loc), Wd G A s H locs (dO G ad d_ad dw ++ []) → ∀ ls : Array Slot, lv_has ls 2 [(0, .ref (ad 99)), (1, .int v1)] → W p l e ({ frames := 1, cells := 0, slots := 0, locals := 22 }) s m [.ref (ad 99)].toArray below meth c H locs 0 0 (MQ below (Don G A (dO G ad out dw ++ [])) [.ref (ad 99)].toArray s 0 0 A) (F0 m 2 ls [])), ∀ (d_ad : Pic) (v1 : Int32), b_X9_clears_2  k2 d_ad v1 = some out → ∀ (H : Heap) (locs : List Loc), Wd G A s H locs (dO G ad d_ad dw ++ []) → ∀ ls : Array Slot, lv_has ls 2 [(0, .ref (ad 99)), (1, .int v1)] → W p l e ({ frames := 1, cells := 0, slots := 0, locals := 22 }) s m [.ref (ad 99)].toArray below meth c H locs 0 0 (MQ below (Don G A (dO G ad out dw ++ [])) [.ref (ad 99)].toArray s 0 0 A) (F0 m 2 ls []) := by
    intro k2 hk2 d_ad v1 hf H locs hw ls hl
    unfold b_X9_clears_2 at hf
    refine r_iload0 C hl 1 rfl dX9_clears_2 ?_
    refine lv_sipush (v := 1234) C.1 C.2.1 dX9_clears_3 (by decide) ?_
    refine lv_icmp_ge (tgt := 37) C.1 C.2.1 dX9_clears_6 (by decide) (fun hc => ?_) (fun hc => ?_)
    · replace hf := ifp hf hc
      exact fin_v C hw (Option.some.inj hf) (fun o => (dO G ad o dw ++ [])) rfl dX9_clears_37
    · replace hf := ifn hf hc
      refine r_iload0 C hl 1 rfl dX9_clears_9 ?_
      refine lv_if_eq (tgt := 31) C.1 C.2.1 dX9_clears_10 (by decide) (fun hc => ?_) (fun hc => ?_)
      · replace hf := ifp hf hc
        refine r_iinc C hl 1 (v1 + 1) [(1, .int (v1 + 1)), (0, .ref (ad 99))] rfl (iinc_e (by decide)) (by decide) rfl dX9_clears_31 (fun ls hl => ?_)
        refine lv_goto (tgt := 2) C.1 C.2.1 dX9_clears_34 (by decide) ?_
        exact hk2 d_ad (v1 + 1) hf _ _ hw _ (lv_sub hl [1, 0] rfl)
      · replace hf := ifn hf hc
        refine r_iload0 C hl 1 rfl dX9_clears_13 ?_
        refine lv_iconst (v := 5) C.1 C.2.1 dX9_clears_14 (by decide) ?_
        refine lv_sipush (v := 164) C.1 C.2.1 dX9_clears_15 (by decide) ?_
        obtain ⟨u1, e1, hf⟩ := bx hf
        refine r_callSi (ws' := (dO G ad d_ad dw ++ [])) (As := [.int v1, .int 5, .int 164]) (rest := []) C hw hl.1 kX9_in ml_X9_100 (c_X9_in l G _ v1 5 164 u1 e1) CutX.none ⟨rfl, rfl⟩ ⟨Nat.le_of_ble_eq_true rfl, Nat.le_of_ble_eq_true rfl⟩ rfl ⟨Nat.zero_le _, Nat.zero_le _⟩ rfl (Nat.le_of_ble_eq_true rfl) dX9_clears_18 (fun H locs hw => ?_)
        refine lv_if_ne (tgt := 31) C.1 C.2.1 dX9_clears_21 (by decide) (fun hc => ?_) (fun hc => ?_)
        · replace hf := ifn hf hc
          refine r_iinc C hl 1 (v1 + 1) [(1, .int (v1 + 1)), (0, .ref (ad 99))] rfl (iinc_e (by decide)) (by decide) rfl dX9_clears_31 (fun ls hl => ?_)
          refine lv_goto (tgt := 2) C.1 C.2.1 dX9_clears_34 (by decide) ?_
          exact hk2 d_ad (v1 + 1) hf _ _ hw _ (lv_sub hl [1, 0] rfl)
        · replace hf := ifp hf hc
          refine r_aload0 C hl 0 rfl dX9_clears_24 ?_
          refine r_get C hw _ (gx_h dO_o) 20 fl_X9_35 rfl dX9_clears_25 ?_
          refine r_iload0 C hl 1 rfl dX9_clears_28 ?_
          refine lv_iconst (v := 0) C.1 C.2.1 dX9_clears_29 (by decide) ?_
          obtain ⟨d_ad2, e2, hf⟩ := bx hf
          refine r_iast C hw _ (gx_h dO_g20) e2 (dO G ad d_ad2 dw ++ []) (fun h => (sx_h dO_g20 (dO_s20 h))) dX9_clears_30 (fun H locs hw => ?_)
          refine r_iinc C hl 1 (v1 + 1) [(1, .int (v1 + 1)), (0, .ref (ad 99))] rfl (iinc_e (by decide)) (by decide) rfl dX9_clears_31 (fun ls hl => ?_)
          refine lv_goto (tgt := 2) C.1 C.2.1 dX9_clears_34 (by decide) ?_
          exact hk2 d_ad2 (v1 + 1) hf _ _ hw _ (lv_sub hl [1, 0] rfl)
  have hL_2 : ∀ n : Nat, ∀ (d_ad : Pic) (v1 : Int32), L_X9_clears_2   n d_ad v1 = some out → ∀ (H : Heap) (locs : List Loc), Wd G A s H locs (dO G ad d_ad dw ++ []) → ∀ ls : Array Slot, lv_has ls 2 [(0, .ref (ad 99)), (1, .int v1)] → W p l e ({ frames := 1, cells := 0, slots := 0, locals := 22 }) s m [.ref (ad 99)].toArray below meth c H locs 0 0 (MQ below (Don G A (dO G ad out dw ++ [])) [.ref (ad 99)].toArray s 0 0 A) (F0 m 2 ls []) := by
    intro  n
    induction n with
    | zero => intro d_ad v1 hf; cases hf
    | succ n ih => exact hB_2 _ ih
  unfold f_X9_clears at hf
  refine lv_iconst (v := 0) C.1 C.2.1 dX9_clears_0 (by decide) ?_
  refine r_istore0 C hl [(1, .int 0), (0, .ref (ad 99))] (by decide) rfl dX9_clears_1 (fun ls hl => ?_)
  exact hL_2  FU d_ad 0 hf _ _ hw _ (lv_sub hl [1, 0] rfl)
set_option maxHeartbeats 4000000 in
set_option maxRecDepth 100000 in
theorem c_X9_fault (l : Launch) (G : GG) (ad : Nat → Nat) (sz : Nat) (d_ad : Pic) (dw : Int64)  (out : Int32 × Pic) (hf : f_X9_fault d_ad = some out) : Met l yX9_fault (.code yX9_fault cX9_fault 1 (some .int) :: BT) ({ frames := 0, cells := 0, slots := 0, locals := 0 }) (va_Pc [.ref (ad 99)] (PreW G sz (dO G ad d_ad dw ++ []))) (Ans G out.1 (va_A (dO G ad d_ad dw ++ []) sz) (dO G ad out.2 dw ++ [])) 0 0 (va_A (dO G ad d_ad dw ++ []) sz) := by
  refine Met.into (by decide) (Nat.le_of_ble_eq_true rfl) ?_
  intro p e s m below meth c C hsz ls hl hw
  have hl : lv_has ls 1 [(0, .ref (ad 99))] := hl
  clear hsz
  generalize va_A (dO G ad d_ad dw ++ []) sz = A at hw ⊢
  unfold f_X9_fault at hf
  refine r_aload0 C hl 0 rfl dX9_fault_0 ?_
  refine lv_iconst (v := 0) C.1 C.2.1 dX9_fault_1 (by decide) ?_
  obtain ⟨d_ad1, e1, hf⟩ := bx hf
  refine r_put C hw _ (gx_h dO_o) 0 fp_X9_75 rfl rfl (Nat.le_of_ble_eq_true rfl) (dO G ad d_ad1 dw ++ []) (sx_h dO_o (dO_p0 e1)) dX9_fault_2 (fun H locs hw => ?_)
  refine r_aload0 C hl 0 rfl dX9_fault_5 ?_
  refine r_get C hw _ (gx_h dO_o) 31 fl_X9_84 rfl dX9_fault_6 ?_
  exact fin_i C hw (Option.some.inj hf) (fun o => o.1) (fun o => (dO G ad o.2 dw ++ [])) rfl rfl dX9_fault_9
set_option maxHeartbeats 4000000 in
set_option maxRecDepth 100000 in
theorem c_X9_where (l : Launch) (G : GG) (ad : Nat → Nat) (sz : Nat) (d_ad : Pic) (dw : Int64)  (out : Int32 × Pic) (hf : f_X9_where d_ad = some out) : Met l yX9_where (.code yX9_where cX9_where 1 (some .int) :: BT) ({ frames := 0, cells := 0, slots := 0, locals := 0 }) (va_Pc [.ref (ad 99)] (PreW G sz (dO G ad d_ad dw ++ []))) (Ans G out.1 (va_A (dO G ad d_ad dw ++ []) sz) (dO G ad out.2 dw ++ [])) 0 0 (va_A (dO G ad d_ad dw ++ []) sz) := by
  refine Met.into (by decide) (Nat.le_of_ble_eq_true rfl) ?_
  intro p e s m below meth c C hsz ls hl hw
  have hl : lv_has ls 1 [(0, .ref (ad 99))] := hl
  clear hsz
  generalize va_A (dO G ad d_ad dw ++ []) sz = A at hw ⊢
  unfold f_X9_where at hf
  refine r_aload0 C hl 0 rfl dX9_where_0 ?_
  refine lv_iconst (v := 0) C.1 C.2.1 dX9_where_1 (by decide) ?_
  obtain ⟨d_ad1, e1, hf⟩ := bx hf
  refine r_put C hw _ (gx_h dO_o) 0 fp_X9_75 rfl rfl (Nat.le_of_ble_eq_true rfl) (dO G ad d_ad1 dw ++ []) (sx_h dO_o (dO_p0 e1)) dX9_where_2 (fun H locs hw => ?_)
  refine r_aload0 C hl 0 rfl dX9_where_5 ?_
  refine r_get C hw _ (gx_h dO_o) 2 fl_X9_9 rfl dX9_where_6 ?_
  exact fin_i C hw (Option.some.inj hf) (fun o => o.1) (fun o => (dO G ad o.2 dw ++ [])) rfl rfl dX9_where_9
set_option maxHeartbeats 4000000 in
set_option maxRecDepth 100000 in
theorem c_X9_isData (l : Launch) (G : GG) (ad : Nat → Nat) (sz : Nat) (d_ad : Pic) (dw : Int64) (x1 : Int32) (out : Int32) (hf : f_X9_isData d_ad x1 = some out) : Met l yX9_isData (.code yX9_isData cX9_isData 2 (some .boolean) :: BT) ({ frames := 0, cells := 0, slots := 0, locals := 0 }) (va_Pc [.ref (ad 99), .int x1] (PreW G sz (dO G ad d_ad dw ++ []))) (Ans G out (va_A (dO G ad d_ad dw ++ []) sz) (dO G ad d_ad dw ++ [])) 0 0 (va_A (dO G ad d_ad dw ++ []) sz) := by
  refine Met.into (by decide) (Nat.le_of_ble_eq_true rfl) ?_
  intro p e s m below meth c C hsz ls hl hw
  have hl : lv_has ls 2 [(0, .ref (ad 99)), (1, .int x1)] := hl
  clear hsz
  generalize va_A (dO G ad d_ad dw ++ []) sz = A at hw ⊢
  unfold f_X9_isData at hf
  refine r_aload0 C hl 0 rfl dX9_isData_0 ?_
  refine r_get C hw _ (gx_h dO_o) 19 fl_X9_225 rfl dX9_isData_1 ?_
  refine lv_if_eq (tgt := 23) C.1 C.2.1 dX9_isData_4 (by decide) (fun hc => ?_) (fun hc => ?_)
  · replace hf := ifp hf hc
    refine lv_iconst (v := 0) C.1 C.2.1 dX9_isData_23 (by decide) ?_
    exact fin_z C hw (by decide) (Option.some.inj hf) (fun o => o) (fun o => (dO G ad d_ad dw ++ [])) rfl rfl dX9_isData_24
  · replace hf := ifn hf hc
    refine r_iload0 C hl 1 rfl dX9_isData_7 ?_
    refine lv_if_lt (tgt := 23) C.1 C.2.1 dX9_isData_8 (by decide) (fun hc => ?_) (fun hc => ?_)
    · replace hf := ifp hf hc
      refine lv_iconst (v := 0) C.1 C.2.1 dX9_isData_23 (by decide) ?_
      exact fin_z C hw (by decide) (Option.some.inj hf) (fun o => o) (fun o => (dO G ad d_ad dw ++ [])) rfl rfl dX9_isData_24
    · replace hf := ifn hf hc
      refine r_iload0 C hl 1 rfl dX9_isData_11 ?_
      refine r_aload0 C hl 0 rfl dX9_isData_12 ?_
      refine r_get C hw _ (gx_h dO_o) 5 fl_X9_219 rfl dX9_isData_13 ?_
      refine lv_icmp_ge (tgt := 23) C.1 C.2.1 dX9_isData_16 (by decide) (fun hc => ?_) (fun hc => ?_)
      · replace hf := ifp hf hc
        refine lv_iconst (v := 0) C.1 C.2.1 dX9_isData_23 (by decide) ?_
        exact fin_z C hw (by decide) (Option.some.inj hf) (fun o => o) (fun o => (dO G ad d_ad dw ++ [])) rfl rfl dX9_isData_24
      · replace hf := ifn hf hc
        refine lv_iconst (v := 1) C.1 C.2.1 dX9_isData_19 (by decide) ?_
        refine lv_goto (tgt := 24) C.1 C.2.1 dX9_isData_20 (by decide) ?_
        exact fin_z C hw (by decide) (Option.some.inj hf) (fun o => o) (fun o => (dO G ad d_ad dw ++ [])) rfl rfl dX9_isData_24
set_option maxHeartbeats 4000000 in
set_option maxRecDepth 100000 in
theorem c_X9_takes (l : Launch) (G : GG) (ad : Nat → Nat) (sz : Nat) (d_ad : Pic) (dw : Int64) (x1 : Int32) (out : Pic) (hf : f_X9_takes d_ad x1 = some out) : Met l yX9_takes (.code yX9_takes cX9_takes 3 none :: BT) ({ frames := 0, cells := 0, slots := 0, locals := 0 }) (va_Pc [.ref (ad 99), .int x1] (PreW G sz (dO G ad d_ad dw ++ []))) (Don G (va_A (dO G ad d_ad dw ++ []) sz) (dO G ad out dw ++ [])) 0 0 (va_A (dO G ad d_ad dw ++ []) sz) := by
  refine Met.into (by decide) (Nat.le_of_ble_eq_true rfl) ?_
  intro p e s m below meth c C hsz ls hl hw
  have hl : lv_has ls 3 [(0, .ref (ad 99)), (1, .int x1)] := hl
  clear hsz
  generalize va_A (dO G ad d_ad dw ++ []) sz = A at hw ⊢
  have hB_2 : ∀ (k2 : Pic → Int32 → Option (Pic)) (hk2 : ∀ (d_ad : Pic) (v2 : Int32), k2 d_ad v2 = some out → ∀ (H : Heap) (locs : List Loc), Wd G A s H locs (dO G ad d_ad dw ++ []) → ∀ ls : Array Slot, lv_has ls 3 [(0, .ref (ad 99)), (1, .int x1), (2, .int v2)] → W p l e ({ frames := 0, cells := 0, slots := 0, locals := 0 }) s m [.ref (ad 99), .int x1].toArray below meth c H locs 0 0 (MQ below (Don G A (dO G ad out dw ++ [])) [.ref (ad 99), .int x1].toArray s 0 0 A) (F0 m 2 ls [])), ∀ (d_ad : Pic) (v2 : Int32), b_X9_takes_2 x1 k2 d_ad v2 = some out → ∀ (H : Heap) (locs : List Loc), Wd G A s H locs (dO G ad d_ad dw ++ []) → ∀ ls : Array Slot, lv_has ls 3 [(0, .ref (ad 99)), (1, .int x1), (2, .int v2)] → W p l e ({ frames := 0, cells := 0, slots := 0, locals := 0 }) s m [.ref (ad 99), .int x1].toArray below meth c H locs 0 0 (MQ below (Don G A (dO G ad out dw ++ [])) [.ref (ad 99), .int x1].toArray s 0 0 A) (F0 m 2 ls []) := by
    intro k2 hk2 d_ad v2 hf H locs hw ls hl
    unfold b_X9_takes_2 at hf
    refine r_iload0 C hl 2 rfl dX9_takes_2 ?_
    refine lv_bipush (v := 16) C.1 C.2.1 dX9_takes_3 (by decide) ?_
    refine lv_icmp_ge (tgt := 28) C.1 C.2.1 dX9_takes_5 (by decide) (fun hc => ?_) (fun hc => ?_)
    · replace hf := ifp hf hc
      exact fin_v C hw (Option.some.inj hf) (fun o => (dO G ad o dw ++ [])) rfl dX9_takes_28
    · replace hf := ifn hf hc
      refine r_aload0 C hl 0 rfl dX9_takes_8 ?_
      refine r_get C hw _ (gx_h dO_o) 33 fl_X9_48 rfl dX9_takes_9 ?_
      refine r_iload0 C hl 2 rfl dX9_takes_12 ?_
      refine r_aload0 C hl 0 rfl dX9_takes_13 ?_
      refine r_get C hw _ (gx_h dO_o) 20 fl_X9_35 rfl dX9_takes_14 ?_
      refine r_iload0 C hl 1 rfl dX9_takes_17 ?_
      refine r_iload0 C hl 2 rfl dX9_takes_18 ?_
      refine lv_iadd C.1 C.2.1 dX9_takes_19 ?_
      obtain ⟨v1_, e1, hf⟩ := bx hf
      refine r_iald C hw _ (gx_h dO_g20) e1 dX9_takes_20 ?_
      obtain ⟨d_ad2, e2, hf⟩ := bx hf
      refine r_iast C hw _ (gx_h dO_g33) e2 (dO G ad d_ad2 dw ++ []) (fun h => (sx_h dO_g33 (dO_s33 h))) dX9_takes_21 (fun H locs hw => ?_)
      refine r_iinc C hl 2 (v2 + 1) [(2, .int (v2 + 1)), (0, .ref (ad 99)), (1, .int x1)] rfl (iinc_e (by decide)) (by decide) rfl dX9_takes_22 (fun ls hl => ?_)
      refine lv_goto (tgt := 2) C.1 C.2.1 dX9_takes_25 (by decide) ?_
      exact hk2 d_ad2 (v2 + 1) hf _ _ hw _ (lv_sub hl [1, 2, 0] rfl)
  have hL_2 : ∀ n : Nat, ∀ (d_ad : Pic) (v2 : Int32), L_X9_takes_2 x1  n d_ad v2 = some out → ∀ (H : Heap) (locs : List Loc), Wd G A s H locs (dO G ad d_ad dw ++ []) → ∀ ls : Array Slot, lv_has ls 3 [(0, .ref (ad 99)), (1, .int x1), (2, .int v2)] → W p l e ({ frames := 0, cells := 0, slots := 0, locals := 0 }) s m [.ref (ad 99), .int x1].toArray below meth c H locs 0 0 (MQ below (Don G A (dO G ad out dw ++ [])) [.ref (ad 99), .int x1].toArray s 0 0 A) (F0 m 2 ls []) := by
    intro  n
    induction n with
    | zero => intro d_ad v2 hf; cases hf
    | succ n ih => exact hB_2 _ ih
  unfold f_X9_takes at hf
  refine lv_iconst (v := 0) C.1 C.2.1 dX9_takes_0 (by decide) ?_
  refine r_istore0 C hl [(2, .int 0), (0, .ref (ad 99)), (1, .int x1)] (by decide) rfl dX9_takes_1 (fun ls hl => ?_)
  exact hL_2  FU d_ad 0 hf _ _ hw _ (lv_sub hl [1, 2, 0] rfl)
set_option maxHeartbeats 4000000 in
set_option maxRecDepth 100000 in
theorem c_X9_runAt (l : Launch) (G : GG) (ad : Nat → Nat) (sz : Nat) (d_ad : Pic) (dw : Int64) (x1 : Int32) (out : Int32) (hf : f_X9_runAt d_ad x1 = some out) : Met l yX9_runAt (.code yX9_runAt cX9_runAt 3 (some .int) :: BT) ({ frames := 0, cells := 0, slots := 0, locals := 0 }) (va_Pc [.ref (ad 99), .int x1] (PreW G sz (dO G ad d_ad dw ++ []))) (Ans G out (va_A (dO G ad d_ad dw ++ []) sz) (dO G ad d_ad dw ++ [])) 0 0 (va_A (dO G ad d_ad dw ++ []) sz) := by
  refine Met.into (by decide) (Nat.le_of_ble_eq_true rfl) ?_
  intro p e s m below meth c C hsz ls hl hw
  have hl : lv_has ls 3 [(0, .ref (ad 99)), (1, .int x1)] := hl
  clear hsz
  generalize va_A (dO G ad d_ad dw ++ []) sz = A at hw ⊢
  have hB_2 : ∀ (k2 : Int32 → Option (Int32)) (hk2 : ∀ (v2 : Int32), k2 v2 = some out → ∀ (H : Heap) (locs : List Loc), Wd G A s H locs (dO G ad d_ad dw ++ []) → ∀ ls : Array Slot, lv_has ls 3 [(0, .ref (ad 99)), (1, .int x1), (2, .int v2)] → W p l e ({ frames := 0, cells := 0, slots := 0, locals := 0 }) s m [.ref (ad 99), .int x1].toArray below meth c H locs 0 0 (MQ below (Ans G out A (dO G ad d_ad dw ++ [])) [.ref (ad 99), .int x1].toArray s 0 0 A) (F0 m 2 ls [])), ∀ (v2 : Int32), b_X9_runAt_2 d_ad x1 k2 v2 = some out → ∀ (H : Heap) (locs : List Loc), Wd G A s H locs (dO G ad d_ad dw ++ []) → ∀ ls : Array Slot, lv_has ls 3 [(0, .ref (ad 99)), (1, .int x1), (2, .int v2)] → W p l e ({ frames := 0, cells := 0, slots := 0, locals := 0 }) s m [.ref (ad 99), .int x1].toArray below meth c H locs 0 0 (MQ below (Ans G out A (dO G ad d_ad dw ++ [])) [.ref (ad 99), .int x1].toArray s 0 0 A) (F0 m 2 ls []) := by
    intro k2 hk2 v2 hf H locs hw ls hl
    unfold b_X9_runAt_2 at hf
    refine r_iload0 C hl 1 rfl dX9_runAt_2 ?_
    refine r_iload0 C hl 2 rfl dX9_runAt_3 ?_
    refine lv_iadd C.1 C.2.1 dX9_runAt_4 ?_
    refine lv_bipush (v := 16) C.1 C.2.1 dX9_runAt_5 (by decide) ?_
    refine lv_icmp_ge (tgt := 33) C.1 C.2.1 dX9_runAt_7 (by decide) (fun hc => ?_) (fun hc => ?_)
    · replace hf := ifp hf hc
      refine r_iload0 C hl 2 rfl dX9_runAt_33 ?_
      exact fin_i C hw (Option.some.inj hf) (fun o => o) (fun o => (dO G ad d_ad dw ++ [])) rfl rfl dX9_runAt_34
    · replace hf := ifn hf hc
      refine r_aload0 C hl 0 rfl dX9_runAt_10 ?_
      refine r_get C hw _ (gx_h dO_o) 33 fl_X9_48 rfl dX9_runAt_11 ?_
      refine r_iload0 C hl 1 rfl dX9_runAt_14 ?_
      refine r_iload0 C hl 2 rfl dX9_runAt_15 ?_
      refine lv_iadd C.1 C.2.1 dX9_runAt_16 ?_
      obtain ⟨v1_, e1, hf⟩ := bx hf
      refine r_iald C hw _ (gx_h dO_g33) e1 dX9_runAt_17 ?_
      refine r_aload0 C hl 0 rfl dX9_runAt_18 ?_
      refine r_get C hw _ (gx_h dO_o) 33 fl_X9_48 rfl dX9_runAt_19 ?_
      refine r_iload0 C hl 1 rfl dX9_runAt_22 ?_
      obtain ⟨v2_, e2, hf⟩ := bx hf
      refine r_iald C hw _ (gx_h dO_g33) e2 dX9_runAt_23 ?_
      refine lv_icmp_ne (tgt := 33) C.1 C.2.1 dX9_runAt_24 (by decide) (fun hc => ?_) (fun hc => ?_)
      · replace hf := ifn hf hc
        refine r_iload0 C hl 2 rfl dX9_runAt_33 ?_
        exact fin_i C hw (Option.some.inj hf) (fun o => o) (fun o => (dO G ad d_ad dw ++ [])) rfl rfl dX9_runAt_34
      · replace hf := ifp hf hc
        refine r_iinc C hl 2 (v2 + 1) [(2, .int (v2 + 1)), (0, .ref (ad 99)), (1, .int x1)] rfl (iinc_e (by decide)) (by decide) rfl dX9_runAt_27 (fun ls hl => ?_)
        refine lv_goto (tgt := 2) C.1 C.2.1 dX9_runAt_30 (by decide) ?_
        exact hk2 (v2 + 1) hf _ _ hw _ (lv_sub hl [1, 2, 0] rfl)
  have hL_2 : ∀ n : Nat, ∀ (v2 : Int32), L_X9_runAt_2 d_ad x1  n v2 = some out → ∀ (H : Heap) (locs : List Loc), Wd G A s H locs (dO G ad d_ad dw ++ []) → ∀ ls : Array Slot, lv_has ls 3 [(0, .ref (ad 99)), (1, .int x1), (2, .int v2)] → W p l e ({ frames := 0, cells := 0, slots := 0, locals := 0 }) s m [.ref (ad 99), .int x1].toArray below meth c H locs 0 0 (MQ below (Ans G out A (dO G ad d_ad dw ++ [])) [.ref (ad 99), .int x1].toArray s 0 0 A) (F0 m 2 ls []) := by
    intro  n
    induction n with
    | zero => intro v2 hf; cases hf
    | succ n ih => exact hB_2 _ ih
  unfold f_X9_runAt at hf
  refine lv_iconst (v := 1) C.1 C.2.1 dX9_runAt_0 (by decide) ?_
  refine r_istore0 C hl [(2, .int 1), (0, .ref (ad 99)), (1, .int x1)] (by decide) rfl dX9_runAt_1 (fun ls hl => ?_)
  exact hL_2  FU 1 hf _ _ hw _ (lv_sub hl [1, 2, 0] rfl)
set_option maxHeartbeats 4000000 in
set_option maxRecDepth 100000 in
theorem c_X9_copyAt (l : Launch) (G : GG) (ad : Nat → Nat) (sz : Nat) (d_ad : Pic) (dw : Int64) (x1 x2 : Int32) (out : Int32) (hf : f_X9_copyAt d_ad x1 x2 = some out) : Met l yX9_copyAt (.code yX9_copyAt cX9_copyAt 4 (some .int) :: BT) ({ frames := 0, cells := 0, slots := 0, locals := 0 }) (va_Pc [.ref (ad 99), .int x1, .int x2] (PreW G sz (dO G ad d_ad dw ++ []))) (Ans G out (va_A (dO G ad d_ad dw ++ []) sz) (dO G ad d_ad dw ++ [])) 0 0 (va_A (dO G ad d_ad dw ++ []) sz) := by
  refine Met.into (by decide) (Nat.le_of_ble_eq_true rfl) ?_
  intro p e s m below meth c C hsz ls hl hw
  have hl : lv_has ls 4 [(0, .ref (ad 99)), (1, .int x1), (2, .int x2)] := hl
  clear hsz
  generalize va_A (dO G ad d_ad dw ++ []) sz = A at hw ⊢
  have hB_2 : ∀ (k2 : Int32 → Option (Int32)) (hk2 : ∀ (v3 : Int32), k2 v3 = some out → ∀ (H : Heap) (locs : List Loc), Wd G A s H locs (dO G ad d_ad dw ++ []) → ∀ ls : Array Slot, lv_has ls 4 [(0, .ref (ad 99)), (1, .int x1), (2, .int x2), (3, .int v3)] → W p l e ({ frames := 0, cells := 0, slots := 0, locals := 0 }) s m [.ref (ad 99), .int x1, .int x2].toArray below meth c H locs 0 0 (MQ below (Ans G out A (dO G ad d_ad dw ++ [])) [.ref (ad 99), .int x1, .int x2].toArray s 0 0 A) (F0 m 2 ls [])), ∀ (v3 : Int32), b_X9_copyAt_2 d_ad x1 x2 k2 v3 = some out → ∀ (H : Heap) (locs : List Loc), Wd G A s H locs (dO G ad d_ad dw ++ []) → ∀ ls : Array Slot, lv_has ls 4 [(0, .ref (ad 99)), (1, .int x1), (2, .int x2), (3, .int v3)] → W p l e ({ frames := 0, cells := 0, slots := 0, locals := 0 }) s m [.ref (ad 99), .int x1, .int x2].toArray below meth c H locs 0 0 (MQ below (Ans G out A (dO G ad d_ad dw ++ [])) [.ref (ad 99), .int x1, .int x2].toArray s 0 0 A) (F0 m 2 ls []) := by
    intro k2 hk2 v3 hf H locs hw ls hl
    unfold b_X9_copyAt_2 at hf
    refine r_iload0 C hl 3 rfl dX9_copyAt_2 ?_
    refine lv_bipush (v := 8) C.1 C.2.1 dX9_copyAt_3 (by decide) ?_
    refine lv_icmp_ge (tgt := 48) C.1 C.2.1 dX9_copyAt_5 (by decide) (fun hc => ?_) (fun hc => ?_)
    · replace hf := ifp hf hc
      refine r_iload0 C hl 3 rfl dX9_copyAt_48 ?_
      exact fin_i C hw (Option.some.inj hf) (fun o => o) (fun o => (dO G ad d_ad dw ++ [])) rfl rfl dX9_copyAt_49
    · replace hf := ifn hf hc
      refine r_iload0 C hl 1 rfl dX9_copyAt_8 ?_
      refine r_iload0 C hl 2 rfl dX9_copyAt_9 ?_
      refine lv_icmp_lt (tgt := 48) C.1 C.2.1 dX9_copyAt_10 (by decide) (fun hc => ?_) (fun hc => ?_)
      · replace hf := ifp hf hc
        refine r_iload0 C hl 3 rfl dX9_copyAt_48 ?_
        exact fin_i C hw (Option.some.inj hf) (fun o => o) (fun o => (dO G ad d_ad dw ++ [])) rfl rfl dX9_copyAt_49
      · replace hf := ifn hf hc
        refine r_iload0 C hl 1 rfl dX9_copyAt_13 ?_
        refine r_iload0 C hl 3 rfl dX9_copyAt_14 ?_
        refine lv_iadd C.1 C.2.1 dX9_copyAt_15 ?_
        refine lv_bipush (v := 16) C.1 C.2.1 dX9_copyAt_16 (by decide) ?_
        refine lv_icmp_ge (tgt := 48) C.1 C.2.1 dX9_copyAt_18 (by decide) (fun hc => ?_) (fun hc => ?_)
        · replace hf := ifp hf hc
          refine r_iload0 C hl 3 rfl dX9_copyAt_48 ?_
          exact fin_i C hw (Option.some.inj hf) (fun o => o) (fun o => (dO G ad d_ad dw ++ [])) rfl rfl dX9_copyAt_49
        · replace hf := ifn hf hc
          refine r_aload0 C hl 0 rfl dX9_copyAt_21 ?_
          refine r_get C hw _ (gx_h dO_o) 33 fl_X9_48 rfl dX9_copyAt_22 ?_
          refine r_iload0 C hl 1 rfl dX9_copyAt_25 ?_
          refine r_iload0 C hl 3 rfl dX9_copyAt_26 ?_
          refine lv_iadd C.1 C.2.1 dX9_copyAt_27 ?_
          obtain ⟨v1_, e1, hf⟩ := bx hf
          refine r_iald C hw _ (gx_h dO_g33) e1 dX9_copyAt_28 ?_
          refine r_aload0 C hl 0 rfl dX9_copyAt_29 ?_
          refine r_get C hw _ (gx_h dO_o) 33 fl_X9_48 rfl dX9_copyAt_30 ?_
          refine r_iload0 C hl 1 rfl dX9_copyAt_33 ?_
          refine r_iload0 C hl 3 rfl dX9_copyAt_34 ?_
          refine lv_iadd C.1 C.2.1 dX9_copyAt_35 ?_
          refine r_iload0 C hl 2 rfl dX9_copyAt_36 ?_
          refine lv_isub C.1 C.2.1 dX9_copyAt_37 ?_
          obtain ⟨v2_, e2, hf⟩ := bx hf
          refine r_iald C hw _ (gx_h dO_g33) e2 dX9_copyAt_38 ?_
          refine lv_icmp_ne (tgt := 48) C.1 C.2.1 dX9_copyAt_39 (by decide) (fun hc => ?_) (fun hc => ?_)
          · replace hf := ifn hf hc
            refine r_iload0 C hl 3 rfl dX9_copyAt_48 ?_
            exact fin_i C hw (Option.some.inj hf) (fun o => o) (fun o => (dO G ad d_ad dw ++ [])) rfl rfl dX9_copyAt_49
          · replace hf := ifp hf hc
            refine r_iinc C hl 3 (v3 + 1) [(3, .int (v3 + 1)), (0, .ref (ad 99)), (1, .int x1), (2, .int x2)] rfl (iinc_e (by decide)) (by decide) rfl dX9_copyAt_42 (fun ls hl => ?_)
            refine lv_goto (tgt := 2) C.1 C.2.1 dX9_copyAt_45 (by decide) ?_
            exact hk2 (v3 + 1) hf _ _ hw _ (lv_sub hl [1, 2, 3, 0] rfl)
  have hL_2 : ∀ n : Nat, ∀ (v3 : Int32), L_X9_copyAt_2 d_ad x1 x2  n v3 = some out → ∀ (H : Heap) (locs : List Loc), Wd G A s H locs (dO G ad d_ad dw ++ []) → ∀ ls : Array Slot, lv_has ls 4 [(0, .ref (ad 99)), (1, .int x1), (2, .int x2), (3, .int v3)] → W p l e ({ frames := 0, cells := 0, slots := 0, locals := 0 }) s m [.ref (ad 99), .int x1, .int x2].toArray below meth c H locs 0 0 (MQ below (Ans G out A (dO G ad d_ad dw ++ [])) [.ref (ad 99), .int x1, .int x2].toArray s 0 0 A) (F0 m 2 ls []) := by
    intro  n
    induction n with
    | zero => intro v3 hf; cases hf
    | succ n ih => exact hB_2 _ ih
  unfold f_X9_copyAt at hf
  refine lv_iconst (v := 0) C.1 C.2.1 dX9_copyAt_0 (by decide) ?_
  refine r_istore0 C hl [(3, .int 0), (0, .ref (ad 99)), (1, .int x1), (2, .int x2)] (by decide) rfl dX9_copyAt_1 (fun ls hl => ?_)
  exact hL_2  FU 0 hf _ _ hw _ (lv_sub hl [1, 2, 3, 0] rfl)
set_option maxHeartbeats 4000000 in
set_option maxRecDepth 100000 in
theorem c_X9_tries (l : Launch) (G : GG) (ad : Nat → Nat) (sz : Nat) (d_ad : Pic) (dw : Int64) (x1 x2 x3 : Int32) (out : Pic) (hf : f_X9_tries d_ad x1 x2 x3 = some out) : Met l yX9_tries (.code yX9_tries cX9_tries 6 none :: BT) ({ frames := 0, cells := 0, slots := 0, locals := 0 }) (va_Pc [.ref (ad 99), .int x1, .int x2, .int x3] (PreW G sz (dO G ad d_ad dw ++ []))) (Don G (va_A (dO G ad d_ad dw ++ []) sz) (dO G ad out dw ++ [])) 0 0 (va_A (dO G ad d_ad dw ++ []) sz) := by
  refine Met.into (by decide) (Nat.le_of_ble_eq_true rfl) ?_
  intro p e s m below meth c C hsz ls hl hw
  have hl : lv_has ls 6 [(0, .ref (ad 99)), (1, .int x1), (2, .int x2), (3, .int x3)] := hl
  clear hsz
  generalize va_A (dO G ad d_ad dw ++ []) sz = A at hw ⊢
  have hB_58 : ∀ (d_ad : Pic) (v4 : Int32) (v5 : Int32), b_X9_tries_58 x1 x2 x3  d_ad v4 v5 = some out → ∀ (H : Heap) (locs : List Loc), Wd G A s H locs (dO G ad d_ad dw ++ []) → ∀ ls : Array Slot, lv_has ls 6 [(0, .ref (ad 99)), (1, .int x1), (4, .int v4), (5, .int v5)] → W p l e ({ frames := 0, cells := 0, slots := 0, locals := 0 }) s m [.ref (ad 99), .int x1, .int x2, .int x3].toArray below meth c H locs 0 0 (MQ below (Don G A (dO G ad out dw ++ [])) [.ref (ad 99), .int x1, .int x2, .int x3].toArray s 0 0 A) (F0 m 58 ls []) := by
    intro d_ad v4 v5 hf H locs hw ls hl
    unfold b_X9_tries_58 at hf
    refine r_aload0 C hl 0 rfl dX9_tries_58 ?_
    refine r_get C hw _ (gx_h dO_o) 34 fl_X9_51 rfl dX9_tries_59 ?_
    refine r_iload0 C hl 1 rfl dX9_tries_62 ?_
    refine r_iload C hl 2 rfl dX9_tries_63 ?_
    obtain ⟨d_ad5, e5, hf⟩ := bx hf
    refine r_iast C hw _ (gx_h dO_g34) e5 (dO G ad d_ad5 dw ++ []) (fun h => (sx_h dO_g34 (dO_s34 h))) dX9_tries_65 (fun H locs hw => ?_)
    refine r_aload0 C hl 0 rfl dX9_tries_66 ?_
    refine r_get C hw _ (gx_h dO_o) 35 fl_X9_54 rfl dX9_tries_67 ?_
    refine r_iload0 C hl 1 rfl dX9_tries_70 ?_
    refine r_iload C hl 3 rfl dX9_tries_71 ?_
    obtain ⟨d_ad6, e6, hf⟩ := bx hf
    refine r_iast C hw _ (gx_h dO_g35) e6 (dO G ad d_ad6 dw ++ []) (fun h => (sx_h dO_g35 (dO_s35 h))) dX9_tries_73 (fun H locs hw => ?_)
    exact fin_v C hw (Option.some.inj hf) (fun o => (dO G ad o dw ++ [])) rfl dX9_tries_74
  unfold f_X9_tries at hf
  refine r_iload0 C hl 3 rfl dX9_tries_0 ?_
  refine r_aload0 C hl 0 rfl dX9_tries_1 ?_
  refine r_get C hw _ (gx_h dO_o) 34 fl_X9_51 rfl dX9_tries_2 ?_
  refine r_iload0 C hl 1 rfl dX9_tries_5 ?_
  refine r_iload0 C hl 2 rfl dX9_tries_6 ?_
  refine lv_iadd C.1 C.2.1 dX9_tries_7 ?_
  obtain ⟨v1_, e1, hf⟩ := bx hf
  refine r_iald C hw _ (gx_h dO_g34) e1 dX9_tries_8 ?_
  refine lv_iadd C.1 C.2.1 dX9_tries_9 ?_
  refine r_istore C hl [(4, .int (x3 + v1_)), (0, .ref (ad 99)), (1, .int x1), (2, .int x2), (3, .int x3)] (by decide) rfl dX9_tries_10 (fun ls hl => ?_)
  refine lv_iconst (v := 1) C.1 C.2.1 dX9_tries_12 (by decide) ?_
  refine r_aload0 C hl 1 rfl dX9_tries_13 ?_
  refine r_get C hw _ (gx_h dO_o) 35 fl_X9_54 rfl dX9_tries_14 ?_
  refine r_iload0 C hl 2 rfl dX9_tries_17 ?_
  refine r_iload0 C hl 3 rfl dX9_tries_18 ?_
  refine lv_iadd C.1 C.2.1 dX9_tries_19 ?_
  obtain ⟨v2_, e2, hf⟩ := bx hf
  refine r_iald C hw _ (gx_h dO_g35) e2 dX9_tries_20 ?_
  refine lv_iadd C.1 C.2.1 dX9_tries_21 ?_
  refine r_istore C hl [(5, .int (1 + v2_)), (4, .int (x3 + v1_)), (0, .ref (ad 99)), (1, .int x1), (2, .int x2), (3, .int x3)] (by decide) rfl dX9_tries_22 (fun ls hl => ?_)
  refine r_iload C hl 1 rfl dX9_tries_24 ?_
  refine r_aload0 C hl 2 rfl dX9_tries_26 ?_
  refine r_get C hw _ (gx_h dO_o) 34 fl_X9_51 rfl dX9_tries_27 ?_
  refine r_iload0 C hl 3 rfl dX9_tries_30 ?_
  obtain ⟨v3_, e3, hf⟩ := bx hf
  refine r_iald C hw _ (gx_h dO_g34) e3 dX9_tries_31 ?_
  refine lv_icmp_gt (tgt := 57) C.1 C.2.1 dX9_tries_32 (by decide) (fun hc => ?_) (fun hc => ?_)
  · replace hf := ifp hf hc
    exact fin_v C hw (Option.some.inj hf) (fun o => (dO G ad o dw ++ [])) rfl dX9_tries_57
  · replace hf := ifn hf hc
    refine r_iload C hl 1 rfl dX9_tries_35 ?_
    refine r_aload0 C hl 2 rfl dX9_tries_37 ?_
    refine r_get C hw _ (gx_h dO_o) 34 fl_X9_51 rfl dX9_tries_38 ?_
    refine r_iload0 C hl 3 rfl dX9_tries_41 ?_
    obtain ⟨v4_, e4, hf⟩ := bx hf
    refine r_iald C hw _ (gx_h dO_g34) e4 dX9_tries_42 ?_
    refine lv_icmp_ne (tgt := 58) C.1 C.2.1 dX9_tries_43 (by decide) (fun hc => ?_) (fun hc => ?_)
    · replace hf := ifn hf hc
      exact hB_58  d_ad (x3 + v1_) (1 + v2_) hf _ _ hw _ (lv_sub hl [2, 3, 1, 0] rfl)
    · replace hf := ifp hf hc
      refine r_iload C hl 0 rfl dX9_tries_46 ?_
      refine r_aload0 C hl 2 rfl dX9_tries_48 ?_
      refine r_get C hw _ (gx_h dO_o) 35 fl_X9_54 rfl dX9_tries_49 ?_
      refine r_iload0 C hl 3 rfl dX9_tries_52 ?_
      obtain ⟨v7_, e7, hf⟩ := bx hf
      refine r_iald C hw _ (gx_h dO_g35) e7 dX9_tries_53 ?_
      refine lv_icmp_lt (tgt := 58) C.1 C.2.1 dX9_tries_54 (by decide) (fun hc => ?_) (fun hc => ?_)
      · replace hf := ifp hf hc
        exact hB_58  d_ad (x3 + v1_) (1 + v2_) hf _ _ hw _ (lv_sub hl [2, 3, 1, 0] rfl)
      · replace hf := ifn hf hc
        exact fin_v C hw (Option.some.inj hf) (fun o => (dO G ad o dw ++ [])) rfl dX9_tries_57
set_option maxHeartbeats 4000000 in
set_option maxRecDepth 100000 in
theorem c_X9_laysLeast (l : Launch) (G : GG) (ad : Nat → Nat) (sz : Nat) (d_ad : Pic) (dw : Int64)  (out : Pic) (hf : f_X9_laysLeast d_ad = some out) : Met l yX9_laysLeast (.code yX9_laysLeast cX9_laysLeast 4 none :: BT) ({ frames := 1, cells := 0, slots := 0, locals := 25 }) (va_Pc [.ref (ad 99)] (PreW G sz (dO G ad d_ad dw ++ []))) (Don G (va_A (dO G ad d_ad dw ++ []) sz) (dO G ad out dw ++ [])) 0 0 (va_A (dO G ad d_ad dw ++ []) sz) := by
  refine Met.into (by decide) (Nat.le_of_ble_eq_true rfl) ?_
  intro p e s m below meth c C hsz ls hl hw
  have hl : lv_has ls 4 [(0, .ref (ad 99))] := hl
  clear hsz
  generalize va_A (dO G ad d_ad dw ++ []) sz = A at hw ⊢
  have hB_106 : ∀ (k19 : Pic → Int32 → Option (Pic)) (hk19 : ∀ (d_ad : Pic) (v1 : Int32), k19 d_ad v1 = some out → ∀ (H : Heap) (locs : List Loc), Wd G A s H locs (dO G ad d_ad dw ++ []) → ∀ ls : Array Slot, lv_has ls 4 [(0, .ref (ad 99)), (1, .int v1)] → W p l e ({ frames := 1, cells := 0, slots := 0, locals := 25 }) s m [.ref (ad 99)].toArray below meth c H locs 0 0 (MQ below (Don G A (dO G ad out dw ++ [])) [.ref (ad 99)].toArray s 0 0 A) (F0 m 19 ls [])) (k106 : Pic → Int32 → Int32 → Option (Pic)) (hk106 : ∀ (d_ad : Pic) (v1 : Int32) (v2 : Int32), k106 d_ad v1 v2 = some out → ∀ (H : Heap) (locs : List Loc), Wd G A s H locs (dO G ad d_ad dw ++ []) → ∀ ls : Array Slot, lv_has ls 4 [(0, .ref (ad 99)), (1, .int v1), (2, .int v2)] → W p l e ({ frames := 1, cells := 0, slots := 0, locals := 25 }) s m [.ref (ad 99)].toArray below meth c H locs 0 0 (MQ below (Don G A (dO G ad out dw ++ [])) [.ref (ad 99)].toArray s 0 0 A) (F0 m 106 ls [])), ∀ (d_ad : Pic) (v1 : Int32) (v2 : Int32), b_X9_laysLeast_106  k19 k106 d_ad v1 v2 = some out → ∀ (H : Heap) (locs : List Loc), Wd G A s H locs (dO G ad d_ad dw ++ []) → ∀ ls : Array Slot, lv_has ls 4 [(0, .ref (ad 99)), (1, .int v1), (2, .int v2)] → W p l e ({ frames := 1, cells := 0, slots := 0, locals := 25 }) s m [.ref (ad 99)].toArray below meth c H locs 0 0 (MQ below (Don G A (dO G ad out dw ++ [])) [.ref (ad 99)].toArray s 0 0 A) (F0 m 106 ls []) := by
    intro k19 hk19 k106 hk106 d_ad v1 v2 hf H locs hw ls hl
    unfold b_X9_laysLeast_106 at hf
    refine r_iload0 C hl 2 rfl dX9_laysLeast_106 ?_
    refine lv_bipush (v := 8) C.1 C.2.1 dX9_laysLeast_107 (by decide) ?_
    refine lv_icmp_gt (tgt := 135) C.1 C.2.1 dX9_laysLeast_109 (by decide) (fun hc => ?_) (fun hc => ?_)
    · replace hf := ifp hf hc
      refine r_iinc C hl 1 (v1 + (-1)) [(1, .int (v1 + (-1))), (0, .ref (ad 99)), (2, .int v2)] rfl (iinc_e (by decide)) (by decide) rfl dX9_laysLeast_135 (fun ls hl => ?_)
      refine lv_goto (tgt := 19) C.1 C.2.1 dX9_laysLeast_138 (by decide) ?_
      exact hk19 d_ad (v1 + (-1)) hf _ _ hw _ (lv_sub hl [1, 0] rfl)
    · replace hf := ifn hf hc
      refine r_iload0 C hl 1 rfl dX9_laysLeast_112 ?_
      refine r_iload0 C hl 2 rfl dX9_laysLeast_113 ?_
      refine lv_iadd C.1 C.2.1 dX9_laysLeast_114 ?_
      refine lv_bipush (v := 16) C.1 C.2.1 dX9_laysLeast_115 (by decide) ?_
      refine lv_icmp_gt (tgt := 135) C.1 C.2.1 dX9_laysLeast_117 (by decide) (fun hc => ?_) (fun hc => ?_)
      · replace hf := ifp hf hc
        refine r_iinc C hl 1 (v1 + (-1)) [(1, .int (v1 + (-1))), (0, .ref (ad 99)), (2, .int v2)] rfl (iinc_e (by decide)) (by decide) rfl dX9_laysLeast_135 (fun ls hl => ?_)
        refine lv_goto (tgt := 19) C.1 C.2.1 dX9_laysLeast_138 (by decide) ?_
        exact hk19 d_ad (v1 + (-1)) hf _ _ hw _ (lv_sub hl [1, 0] rfl)
      · replace hf := ifn hf hc
        refine r_aload0 C hl 0 rfl dX9_laysLeast_120 ?_
        refine r_iload0 C hl 1 rfl dX9_laysLeast_121 ?_
        refine r_iload0 C hl 2 rfl dX9_laysLeast_122 ?_
        refine lv_iconst (v := 1) C.1 C.2.1 dX9_laysLeast_123 (by decide) ?_
        refine r_iload0 C hl 2 rfl dX9_laysLeast_124 ?_
        refine lv_iadd C.1 C.2.1 dX9_laysLeast_125 ?_
        obtain ⟨u6, e6, hf⟩ := bx hf
        refine r_callVv (ws' := (dO G ad u6 dw ++ [])) (As := [.int v1, .int v2, .int (1 + v2)]) (rest := []) C hw hl.1 kX9_tries ml_X9_245 (c_X9_tries l G ad _ d_ad dw v1 v2 (1 + v2) u6 e6) (CutX.take dO_f CutX.none) _ (gx_h dO_o) rfl ⟨rfl, rfl⟩ ⟨Nat.le_of_ble_eq_true rfl, Nat.le_of_ble_eq_true rfl⟩ rfl ⟨Nat.zero_le _, Nat.zero_le _⟩ rfl (Nat.le_of_ble_eq_true rfl) dX9_laysLeast_126 (fun H locs hw => ?_)
        refine r_iinc C hl 2 (v2 + 1) [(2, .int (v2 + 1)), (0, .ref (ad 99)), (1, .int v1)] rfl (iinc_e (by decide)) (by decide) rfl dX9_laysLeast_129 (fun ls hl => ?_)
        refine lv_goto (tgt := 106) C.1 C.2.1 dX9_laysLeast_132 (by decide) ?_
        exact hk106 u6 v1 (v2 + 1) hf _ _ hw _ (lv_sub hl [1, 2, 0] rfl)
  have hL_106 : ∀ (k19 : Pic → Int32 → Option (Pic)) (hk19 : ∀ (d_ad : Pic) (v1 : Int32), k19 d_ad v1 = some out → ∀ (H : Heap) (locs : List Loc), Wd G A s H locs (dO G ad d_ad dw ++ []) → ∀ ls : Array Slot, lv_has ls 4 [(0, .ref (ad 99)), (1, .int v1)] → W p l e ({ frames := 1, cells := 0, slots := 0, locals := 25 }) s m [.ref (ad 99)].toArray below meth c H locs 0 0 (MQ below (Don G A (dO G ad out dw ++ [])) [.ref (ad 99)].toArray s 0 0 A) (F0 m 19 ls [])), ∀ n : Nat, ∀ (d_ad : Pic) (v1 : Int32) (v2 : Int32), L_X9_laysLeast_106  k19 n d_ad v1 v2 = some out → ∀ (H : Heap) (locs : List Loc), Wd G A s H locs (dO G ad d_ad dw ++ []) → ∀ ls : Array Slot, lv_has ls 4 [(0, .ref (ad 99)), (1, .int v1), (2, .int v2)] → W p l e ({ frames := 1, cells := 0, slots := 0, locals := 25 }) s m [.ref (ad 99)].toArray below meth c H locs 0 0 (MQ below (Don G A (dO G ad out dw ++ [])) [.ref (ad 99)].toArray s 0 0 A) (F0 m 106 ls []) := by
    intro k19 hk19 n
    induction n with
    | zero => intro d_ad v1 v2 hf; cases hf
    | succ n ih => exact hB_106 k19 hk19 _ ih
  have hB_80 : ∀ (k19 : Pic → Int32 → Option (Pic)) (hk19 : ∀ (d_ad : Pic) (v1 : Int32), k19 d_ad v1 = some out → ∀ (H : Heap) (locs : List Loc), Wd G A s H locs (dO G ad d_ad dw ++ []) → ∀ ls : Array Slot, lv_has ls 4 [(0, .ref (ad 99)), (1, .int v1)] → W p l e ({ frames := 1, cells := 0, slots := 0, locals := 25 }) s m [.ref (ad 99)].toArray below meth c H locs 0 0 (MQ below (Don G A (dO G ad out dw ++ [])) [.ref (ad 99)].toArray s 0 0 A) (F0 m 19 ls [])) (k67 : Pic → Int32 → Int32 → Option (Pic)) (hk67 : ∀ (d_ad : Pic) (v1 : Int32) (v2 : Int32), k67 d_ad v1 v2 = some out → ∀ (H : Heap) (locs : List Loc), Wd G A s H locs (dO G ad d_ad dw ++ []) → ∀ ls : Array Slot, lv_has ls 4 [(0, .ref (ad 99)), (1, .int v1), (2, .int v2)] → W p l e ({ frames := 1, cells := 0, slots := 0, locals := 25 }) s m [.ref (ad 99)].toArray below meth c H locs 0 0 (MQ below (Don G A (dO G ad out dw ++ [])) [.ref (ad 99)].toArray s 0 0 A) (F0 m 67 ls [])) (k80 : Pic → Int32 → Int32 → Int32 → Option (Pic)) (hk80 : ∀ (d_ad : Pic) (v1 : Int32) (v2 : Int32) (v3 : Int32), k80 d_ad v1 v2 v3 = some out → ∀ (H : Heap) (locs : List Loc), Wd G A s H locs (dO G ad d_ad dw ++ []) → ∀ ls : Array Slot, lv_has ls 4 [(0, .ref (ad 99)), (1, .int v1), (2, .int v2), (3, .int v3)] → W p l e ({ frames := 1, cells := 0, slots := 0, locals := 25 }) s m [.ref (ad 99)].toArray below meth c H locs 0 0 (MQ below (Don G A (dO G ad out dw ++ [])) [.ref (ad 99)].toArray s 0 0 A) (F0 m 80 ls [])), ∀ (d_ad : Pic) (v1 : Int32) (v2 : Int32) (v3 : Int32), b_X9_laysLeast_80  k19 k67 k80 d_ad v1 v2 v3 = some out → ∀ (H : Heap) (locs : List Loc), Wd G A s H locs (dO G ad d_ad dw ++ []) → ∀ ls : Array Slot, lv_has ls 4 [(0, .ref (ad 99)), (1, .int v1), (2, .int v2), (3, .int v3)] → W p l e ({ frames := 1, cells := 0, slots := 0, locals := 25 }) s m [.ref (ad 99)].toArray below meth c H locs 0 0 (MQ below (Don G A (dO G ad out dw ++ [])) [.ref (ad 99)].toArray s 0 0 A) (F0 m 80 ls []) := by
    intro k19 hk19 k67 hk67 k80 hk80 d_ad v1 v2 v3 hf H locs hw ls hl
    unfold b_X9_laysLeast_80 at hf
    refine r_iload0 C hl 3 rfl dX9_laysLeast_80 ?_
    refine lv_iconst (v := 1) C.1 C.2.1 dX9_laysLeast_81 (by decide) ?_
    refine lv_icmp_le (tgt := 98) C.1 C.2.1 dX9_laysLeast_82 (by decide) (fun hc => ?_) (fun hc => ?_)
    · replace hf := ifp hf hc
      refine r_iinc C hl 2 (v2 + 1) [(2, .int (v2 + 1)), (0, .ref (ad 99)), (1, .int v1), (3, .int v3)] rfl (iinc_e (by decide)) (by decide) rfl dX9_laysLeast_98 (fun ls hl => ?_)
      refine lv_goto (tgt := 67) C.1 C.2.1 dX9_laysLeast_101 (by decide) ?_
      exact hk67 d_ad v1 (v2 + 1) hf _ _ hw _ (lv_sub hl [1, 2, 0] rfl)
    · replace hf := ifn hf hc
      refine r_aload0 C hl 0 rfl dX9_laysLeast_85 ?_
      refine r_iload0 C hl 1 rfl dX9_laysLeast_86 ?_
      refine r_iload0 C hl 3 rfl dX9_laysLeast_87 ?_
      refine lv_iconst (v := 3) C.1 C.2.1 dX9_laysLeast_88 (by decide) ?_
      obtain ⟨u8, e8, hf⟩ := bx hf
      refine r_callVv (ws' := (dO G ad u8 dw ++ [])) (As := [.int v1, .int v3, .int 3]) (rest := []) C hw hl.1 kX9_tries ml_X9_245 (c_X9_tries l G ad _ d_ad dw v1 v3 3 u8 e8) (CutX.take dO_f CutX.none) _ (gx_h dO_o) rfl ⟨rfl, rfl⟩ ⟨Nat.le_of_ble_eq_true rfl, Nat.le_of_ble_eq_true rfl⟩ rfl ⟨Nat.zero_le _, Nat.zero_le _⟩ rfl (Nat.le_of_ble_eq_true rfl) dX9_laysLeast_89 (fun H locs hw => ?_)
      refine r_iinc C hl 3 (v3 + (-1)) [(3, .int (v3 + (-1))), (0, .ref (ad 99)), (1, .int v1), (2, .int v2)] rfl (iinc_e (by decide)) (by decide) rfl dX9_laysLeast_92 (fun ls hl => ?_)
      refine lv_goto (tgt := 80) C.1 C.2.1 dX9_laysLeast_95 (by decide) ?_
      exact hk80 u8 v1 v2 (v3 + (-1)) hf _ _ hw _ (lv_sub hl [1, 2, 3, 0] rfl)
  have hL_80 : ∀ (k19 : Pic → Int32 → Option (Pic)) (hk19 : ∀ (d_ad : Pic) (v1 : Int32), k19 d_ad v1 = some out → ∀ (H : Heap) (locs : List Loc), Wd G A s H locs (dO G ad d_ad dw ++ []) → ∀ ls : Array Slot, lv_has ls 4 [(0, .ref (ad 99)), (1, .int v1)] → W p l e ({ frames := 1, cells := 0, slots := 0, locals := 25 }) s m [.ref (ad 99)].toArray below meth c H locs 0 0 (MQ below (Don G A (dO G ad out dw ++ [])) [.ref (ad 99)].toArray s 0 0 A) (F0 m 19 ls [])) (k67 : Pic → Int32 → Int32 → Option (Pic)) (hk67 : ∀ (d_ad : Pic) (v1 : Int32) (v2 : Int32), k67 d_ad v1 v2 = some out → ∀ (H : Heap) (locs : List Loc), Wd G A s H locs (dO G ad d_ad dw ++ []) → ∀ ls : Array Slot, lv_has ls 4 [(0, .ref (ad 99)), (1, .int v1), (2, .int v2)] → W p l e ({ frames := 1, cells := 0, slots := 0, locals := 25 }) s m [.ref (ad 99)].toArray below meth c H locs 0 0 (MQ below (Don G A (dO G ad out dw ++ [])) [.ref (ad 99)].toArray s 0 0 A) (F0 m 67 ls [])), ∀ n : Nat, ∀ (d_ad : Pic) (v1 : Int32) (v2 : Int32) (v3 : Int32), L_X9_laysLeast_80  k19 k67 n d_ad v1 v2 v3 = some out → ∀ (H : Heap) (locs : List Loc), Wd G A s H locs (dO G ad d_ad dw ++ []) → ∀ ls : Array Slot, lv_has ls 4 [(0, .ref (ad 99)), (1, .int v1), (2, .int v2), (3, .int v3)] → W p l e ({ frames := 1, cells := 0, slots := 0, locals := 25 }) s m [.ref (ad 99)].toArray below meth c H locs 0 0 (MQ below (Don G A (dO G ad out dw ++ [])) [.ref (ad 99)].toArray s 0 0 A) (F0 m 80 ls []) := by
    intro k19 hk19 k67 hk67 n
    induction n with
    | zero => intro d_ad v1 v2 v3 hf; cases hf
    | succ n ih => exact hB_80 k19 hk19 k67 hk67 _ ih
  have hB_67 : ∀ (k19 : Pic → Int32 → Option (Pic)) (hk19 : ∀ (d_ad : Pic) (v1 : Int32), k19 d_ad v1 = some out → ∀ (H : Heap) (locs : List Loc), Wd G A s H locs (dO G ad d_ad dw ++ []) → ∀ ls : Array Slot, lv_has ls 4 [(0, .ref (ad 99)), (1, .int v1)] → W p l e ({ frames := 1, cells := 0, slots := 0, locals := 25 }) s m [.ref (ad 99)].toArray below meth c H locs 0 0 (MQ below (Don G A (dO G ad out dw ++ [])) [.ref (ad 99)].toArray s 0 0 A) (F0 m 19 ls [])) (k67 : Pic → Int32 → Int32 → Option (Pic)) (hk67 : ∀ (d_ad : Pic) (v1 : Int32) (v2 : Int32), k67 d_ad v1 v2 = some out → ∀ (H : Heap) (locs : List Loc), Wd G A s H locs (dO G ad d_ad dw ++ []) → ∀ ls : Array Slot, lv_has ls 4 [(0, .ref (ad 99)), (1, .int v1), (2, .int v2)] → W p l e ({ frames := 1, cells := 0, slots := 0, locals := 25 }) s m [.ref (ad 99)].toArray below meth c H locs 0 0 (MQ below (Don G A (dO G ad out dw ++ [])) [.ref (ad 99)].toArray s 0 0 A) (F0 m 67 ls [])), ∀ (d_ad : Pic) (v1 : Int32) (v2 : Int32), b_X9_laysLeast_67  k19 k67 d_ad v1 v2 = some out → ∀ (H : Heap) (locs : List Loc), Wd G A s H locs (dO G ad d_ad dw ++ []) → ∀ ls : Array Slot, lv_has ls 4 [(0, .ref (ad 99)), (1, .int v1), (2, .int v2)] → W p l e ({ frames := 1, cells := 0, slots := 0, locals := 25 }) s m [.ref (ad 99)].toArray below meth c H locs 0 0 (MQ below (Don G A (dO G ad out dw ++ [])) [.ref (ad 99)].toArray s 0 0 A) (F0 m 67 ls []) := by
    intro k19 hk19 k67 hk67 d_ad v1 v2 hf H locs hw ls hl
    unfold b_X9_laysLeast_67 at hf
    refine r_iload0 C hl 2 rfl dX9_laysLeast_67 ?_
    refine lv_bipush (v := 15) C.1 C.2.1 dX9_laysLeast_68 (by decide) ?_
    refine lv_icmp_gt (tgt := 104) C.1 C.2.1 dX9_laysLeast_70 (by decide) (fun hc => ?_) (fun hc => ?_)
    · replace hf := ifp hf hc
      refine lv_iconst (v := 1) C.1 C.2.1 dX9_laysLeast_104 (by decide) ?_
      refine r_istore0 C hl [(2, .int 1), (0, .ref (ad 99)), (1, .int v1)] (by decide) rfl dX9_laysLeast_105 (fun ls hl => ?_)
      exact hL_106 k19 hk19 FU d_ad v1 1 hf _ _ hw _ (lv_sub hl [1, 2, 0] rfl)
    · replace hf := ifn hf hc
      refine r_aload0 C hl 0 rfl dX9_laysLeast_73 ?_
      refine r_iload0 C hl 1 rfl dX9_laysLeast_74 ?_
      refine r_iload0 C hl 2 rfl dX9_laysLeast_75 ?_
      obtain ⟨u7, e7, hf⟩ := bx hf
      refine r_callVi (ws' := (dO G ad d_ad dw ++ [])) (As := [.int v1, .int v2]) (rest := []) C hw hl.1 kX9_copyAt ml_X9_249 (c_X9_copyAt l G ad _ d_ad dw v1 v2 u7 e7) (CutX.take dO_f CutX.none) _ (gx_h dO_o) rfl ⟨rfl, rfl⟩ ⟨Nat.le_of_ble_eq_true rfl, Nat.le_of_ble_eq_true rfl⟩ rfl ⟨Nat.zero_le _, Nat.zero_le _⟩ rfl (Nat.le_of_ble_eq_true rfl) dX9_laysLeast_76 (fun H locs hw => ?_)
      refine r_istore0 C hl [(3, .int u7), (0, .ref (ad 99)), (1, .int v1), (2, .int v2)] (by decide) rfl dX9_laysLeast_79 (fun ls hl => ?_)
      exact hL_80 k19 hk19 k67 hk67 FU d_ad v1 v2 u7 hf _ _ hw _ (lv_sub hl [1, 2, 3, 0] rfl)
  have hL_67 : ∀ (k19 : Pic → Int32 → Option (Pic)) (hk19 : ∀ (d_ad : Pic) (v1 : Int32), k19 d_ad v1 = some out → ∀ (H : Heap) (locs : List Loc), Wd G A s H locs (dO G ad d_ad dw ++ []) → ∀ ls : Array Slot, lv_has ls 4 [(0, .ref (ad 99)), (1, .int v1)] → W p l e ({ frames := 1, cells := 0, slots := 0, locals := 25 }) s m [.ref (ad 99)].toArray below meth c H locs 0 0 (MQ below (Don G A (dO G ad out dw ++ [])) [.ref (ad 99)].toArray s 0 0 A) (F0 m 19 ls [])), ∀ n : Nat, ∀ (d_ad : Pic) (v1 : Int32) (v2 : Int32), L_X9_laysLeast_67  k19 n d_ad v1 v2 = some out → ∀ (H : Heap) (locs : List Loc), Wd G A s H locs (dO G ad d_ad dw ++ []) → ∀ ls : Array Slot, lv_has ls 4 [(0, .ref (ad 99)), (1, .int v1), (2, .int v2)] → W p l e ({ frames := 1, cells := 0, slots := 0, locals := 25 }) s m [.ref (ad 99)].toArray below meth c H locs 0 0 (MQ below (Don G A (dO G ad out dw ++ [])) [.ref (ad 99)].toArray s 0 0 A) (F0 m 67 ls []) := by
    intro k19 hk19 n
    induction n with
    | zero => intro d_ad v1 v2 hf; cases hf
    | succ n ih => exact hB_67 k19 hk19 _ ih
  have hB_47 : ∀ (k19 : Pic → Int32 → Option (Pic)) (hk19 : ∀ (d_ad : Pic) (v1 : Int32), k19 d_ad v1 = some out → ∀ (H : Heap) (locs : List Loc), Wd G A s H locs (dO G ad d_ad dw ++ []) → ∀ ls : Array Slot, lv_has ls 4 [(0, .ref (ad 99)), (1, .int v1)] → W p l e ({ frames := 1, cells := 0, slots := 0, locals := 25 }) s m [.ref (ad 99)].toArray below meth c H locs 0 0 (MQ below (Don G A (dO G ad out dw ++ [])) [.ref (ad 99)].toArray s 0 0 A) (F0 m 19 ls [])) (k47 : Pic → Int32 → Int32 → Option (Pic)) (hk47 : ∀ (d_ad : Pic) (v1 : Int32) (v2 : Int32), k47 d_ad v1 v2 = some out → ∀ (H : Heap) (locs : List Loc), Wd G A s H locs (dO G ad d_ad dw ++ []) → ∀ ls : Array Slot, lv_has ls 4 [(0, .ref (ad 99)), (1, .int v1), (2, .int v2)] → W p l e ({ frames := 1, cells := 0, slots := 0, locals := 25 }) s m [.ref (ad 99)].toArray below meth c H locs 0 0 (MQ below (Don G A (dO G ad out dw ++ [])) [.ref (ad 99)].toArray s 0 0 A) (F0 m 47 ls [])), ∀ (d_ad : Pic) (v1 : Int32) (v2 : Int32), b_X9_laysLeast_47  k19 k47 d_ad v1 v2 = some out → ∀ (H : Heap) (locs : List Loc), Wd G A s H locs (dO G ad d_ad dw ++ []) → ∀ ls : Array Slot, lv_has ls 4 [(0, .ref (ad 99)), (1, .int v1), (2, .int v2)] → W p l e ({ frames := 1, cells := 0, slots := 0, locals := 25 }) s m [.ref (ad 99)].toArray below meth c H locs 0 0 (MQ below (Don G A (dO G ad out dw ++ [])) [.ref (ad 99)].toArray s 0 0 A) (F0 m 47 ls []) := by
    intro k19 hk19 k47 hk47 d_ad v1 v2 hf H locs hw ls hl
    unfold b_X9_laysLeast_47 at hf
    refine r_iload0 C hl 2 rfl dX9_laysLeast_47 ?_
    refine lv_iconst (v := 1) C.1 C.2.1 dX9_laysLeast_48 (by decide) ?_
    refine lv_icmp_le (tgt := 65) C.1 C.2.1 dX9_laysLeast_49 (by decide) (fun hc => ?_) (fun hc => ?_)
    · replace hf := ifp hf hc
      refine lv_iconst (v := 2) C.1 C.2.1 dX9_laysLeast_65 (by decide) ?_
      refine r_istore0 C hl [(2, .int 2), (0, .ref (ad 99)), (1, .int v1)] (by decide) rfl dX9_laysLeast_66 (fun ls hl => ?_)
      exact hL_67 k19 hk19 FU d_ad v1 2 hf _ _ hw _ (lv_sub hl [1, 2, 0] rfl)
    · replace hf := ifn hf hc
      refine r_aload0 C hl 0 rfl dX9_laysLeast_52 ?_
      refine r_iload0 C hl 1 rfl dX9_laysLeast_53 ?_
      refine r_iload0 C hl 2 rfl dX9_laysLeast_54 ?_
      refine lv_iconst (v := 2) C.1 C.2.1 dX9_laysLeast_55 (by decide) ?_
      obtain ⟨u9, e9, hf⟩ := bx hf
      refine r_callVv (ws' := (dO G ad u9 dw ++ [])) (As := [.int v1, .int v2, .int 2]) (rest := []) C hw hl.1 kX9_tries ml_X9_245 (c_X9_tries l G ad _ d_ad dw v1 v2 2 u9 e9) (CutX.take dO_f CutX.none) _ (gx_h dO_o) rfl ⟨rfl, rfl⟩ ⟨Nat.le_of_ble_eq_true rfl, Nat.le_of_ble_eq_true rfl⟩ rfl ⟨Nat.zero_le _, Nat.zero_le _⟩ rfl (Nat.le_of_ble_eq_true rfl) dX9_laysLeast_56 (fun H locs hw => ?_)
      refine r_iinc C hl 2 (v2 + (-1)) [(2, .int (v2 + (-1))), (0, .ref (ad 99)), (1, .int v1)] rfl (iinc_e (by decide)) (by decide) rfl dX9_laysLeast_59 (fun ls hl => ?_)
      refine lv_goto (tgt := 47) C.1 C.2.1 dX9_laysLeast_62 (by decide) ?_
      exact hk47 u9 v1 (v2 + (-1)) hf _ _ hw _ (lv_sub hl [1, 2, 0] rfl)
  have hL_47 : ∀ (k19 : Pic → Int32 → Option (Pic)) (hk19 : ∀ (d_ad : Pic) (v1 : Int32), k19 d_ad v1 = some out → ∀ (H : Heap) (locs : List Loc), Wd G A s H locs (dO G ad d_ad dw ++ []) → ∀ ls : Array Slot, lv_has ls 4 [(0, .ref (ad 99)), (1, .int v1)] → W p l e ({ frames := 1, cells := 0, slots := 0, locals := 25 }) s m [.ref (ad 99)].toArray below meth c H locs 0 0 (MQ below (Don G A (dO G ad out dw ++ [])) [.ref (ad 99)].toArray s 0 0 A) (F0 m 19 ls [])), ∀ n : Nat, ∀ (d_ad : Pic) (v1 : Int32) (v2 : Int32), L_X9_laysLeast_47  k19 n d_ad v1 v2 = some out → ∀ (H : Heap) (locs : List Loc), Wd G A s H locs (dO G ad d_ad dw ++ []) → ∀ ls : Array Slot, lv_has ls 4 [(0, .ref (ad 99)), (1, .int v1), (2, .int v2)] → W p l e ({ frames := 1, cells := 0, slots := 0, locals := 25 }) s m [.ref (ad 99)].toArray below meth c H locs 0 0 (MQ below (Don G A (dO G ad out dw ++ [])) [.ref (ad 99)].toArray s 0 0 A) (F0 m 47 ls []) := by
    intro k19 hk19 n
    induction n with
    | zero => intro d_ad v1 v2 hf; cases hf
    | succ n ih => exact hB_47 k19 hk19 _ ih
  have hB_19 : ∀ (k19 : Pic → Int32 → Option (Pic)) (hk19 : ∀ (d_ad : Pic) (v1 : Int32), k19 d_ad v1 = some out → ∀ (H : Heap) (locs : List Loc), Wd G A s H locs (dO G ad d_ad dw ++ []) → ∀ ls : Array Slot, lv_has ls 4 [(0, .ref (ad 99)), (1, .int v1)] → W p l e ({ frames := 1, cells := 0, slots := 0, locals := 25 }) s m [.ref (ad 99)].toArray below meth c H locs 0 0 (MQ below (Don G A (dO G ad out dw ++ [])) [.ref (ad 99)].toArray s 0 0 A) (F0 m 19 ls [])), ∀ (d_ad : Pic) (v1 : Int32), b_X9_laysLeast_19  k19 d_ad v1 = some out → ∀ (H : Heap) (locs : List Loc), Wd G A s H locs (dO G ad d_ad dw ++ []) → ∀ ls : Array Slot, lv_has ls 4 [(0, .ref (ad 99)), (1, .int v1)] → W p l e ({ frames := 1, cells := 0, slots := 0, locals := 25 }) s m [.ref (ad 99)].toArray below meth c H locs 0 0 (MQ below (Don G A (dO G ad out dw ++ [])) [.ref (ad 99)].toArray s 0 0 A) (F0 m 19 ls []) := by
    intro k19 hk19 d_ad v1 hf H locs hw ls hl
    unfold b_X9_laysLeast_19 at hf
    refine r_iload0 C hl 1 rfl dX9_laysLeast_19 ?_
    refine lv_if_lt (tgt := 141) C.1 C.2.1 dX9_laysLeast_20 (by decide) (fun hc => ?_) (fun hc => ?_)
    · replace hf := ifp hf hc
      exact fin_v C hw (Option.some.inj hf) (fun o => (dO G ad o dw ++ [])) rfl dX9_laysLeast_141
    · replace hf := ifn hf hc
      refine r_aload0 C hl 0 rfl dX9_laysLeast_23 ?_
      refine r_get C hw _ (gx_h dO_o) 34 fl_X9_51 rfl dX9_laysLeast_24 ?_
      refine r_iload0 C hl 1 rfl dX9_laysLeast_27 ?_
      refine lv_sipush (v := 1000) C.1 C.2.1 dX9_laysLeast_28 (by decide) ?_
      obtain ⟨d_ad3, e3, hf⟩ := bx hf
      refine r_iast C hw _ (gx_h dO_g34) e3 (dO G ad d_ad3 dw ++ []) (fun h => (sx_h dO_g34 (dO_s34 h))) dX9_laysLeast_31 (fun H locs hw => ?_)
      refine r_aload0 C hl 0 rfl dX9_laysLeast_32 ?_
      refine r_get C hw _ (gx_h dO_o) 35 fl_X9_54 rfl dX9_laysLeast_33 ?_
      refine r_iload0 C hl 1 rfl dX9_laysLeast_36 ?_
      refine lv_sipush (v := 1000) C.1 C.2.1 dX9_laysLeast_37 (by decide) ?_
      obtain ⟨d_ad4, e4, hf⟩ := bx hf
      refine r_iast C hw _ (gx_h dO_g35) e4 (dO G ad d_ad4 dw ++ []) (fun h => (sx_h dO_g35 (dO_s35 h))) dX9_laysLeast_40 (fun H locs hw => ?_)
      refine r_aload0 C hl 0 rfl dX9_laysLeast_41 ?_
      refine r_iload0 C hl 1 rfl dX9_laysLeast_42 ?_
      obtain ⟨u5, e5, hf⟩ := bx hf
      refine r_callVi (ws' := (dO G ad d_ad4 dw ++ [])) (As := [.int v1]) (rest := []) C hw hl.1 kX9_runAt ml_X9_242 (c_X9_runAt l G ad _ d_ad4 dw v1 u5 e5) (CutX.take dO_f CutX.none) _ (gx_h dO_o) rfl ⟨rfl, rfl⟩ ⟨Nat.le_of_ble_eq_true rfl, Nat.le_of_ble_eq_true rfl⟩ rfl ⟨Nat.zero_le _, Nat.zero_le _⟩ rfl (Nat.le_of_ble_eq_true rfl) dX9_laysLeast_43 (fun H locs hw => ?_)
      refine r_istore0 C hl [(2, .int u5), (0, .ref (ad 99)), (1, .int v1)] (by decide) rfl dX9_laysLeast_46 (fun ls hl => ?_)
      exact hL_47 k19 hk19 FU d_ad4 v1 u5 hf _ _ hw _ (lv_sub hl [1, 2, 0] rfl)
  have hL_19 : ∀ n : Nat, ∀ (d_ad : Pic) (v1 : Int32), L_X9_laysLeast_19   n d_ad v1 = some out → ∀ (H : Heap) (locs : List Loc), Wd G A s H locs (dO G ad d_ad dw ++ []) → ∀ ls : Array Slot, lv_has ls 4 [(0, .ref (ad 99)), (1, .int v1)] → W p l e ({ frames := 1, cells := 0, slots := 0, locals := 25 }) s m [.ref (ad 99)].toArray below meth c H locs 0 0 (MQ below (Don G A (dO G ad out dw ++ [])) [.ref (ad 99)].toArray s 0 0 A) (F0 m 19 ls []) := by
    intro  n
    induction n with
    | zero => intro d_ad v1 hf; cases hf
    | succ n ih => exact hB_19 _ ih
  unfold f_X9_laysLeast at hf
  refine r_aload0 C hl 0 rfl dX9_laysLeast_0 ?_
  refine r_get C hw _ (gx_h dO_o) 34 fl_X9_51 rfl dX9_laysLeast_1 ?_
  refine lv_bipush (v := 16) C.1 C.2.1 dX9_laysLeast_4 (by decide) ?_
  refine lv_iconst (v := 0) C.1 C.2.1 dX9_laysLeast_6 (by decide) ?_
  obtain ⟨d_ad1, e1, hf⟩ := bx hf
  refine r_iast C hw _ (gx_h dO_g34) e1 (dO G ad d_ad1 dw ++ []) (fun h => (sx_h dO_g34 (dO_s34 h))) dX9_laysLeast_7 (fun H locs hw => ?_)
  refine r_aload0 C hl 0 rfl dX9_laysLeast_8 ?_
  refine r_get C hw _ (gx_h dO_o) 35 fl_X9_54 rfl dX9_laysLeast_9 ?_
  refine lv_bipush (v := 16) C.1 C.2.1 dX9_laysLeast_12 (by decide) ?_
  refine lv_iconst (v := 0) C.1 C.2.1 dX9_laysLeast_14 (by decide) ?_
  obtain ⟨d_ad2, e2, hf⟩ := bx hf
  refine r_iast C hw _ (gx_h dO_g35) e2 (dO G ad d_ad2 dw ++ []) (fun h => (sx_h dO_g35 (dO_s35 h))) dX9_laysLeast_15 (fun H locs hw => ?_)
  refine lv_bipush (v := 15) C.1 C.2.1 dX9_laysLeast_16 (by decide) ?_
  refine r_istore0 C hl [(1, .int 15), (0, .ref (ad 99))] (by decide) rfl dX9_laysLeast_18 (fun ls hl => ?_)
  exact hL_19  FU d_ad2 15 hf _ _ hw _ (lv_sub hl [1, 0] rfl)
set_option maxHeartbeats 4000000 in
set_option maxRecDepth 100000 in
theorem c_X9_isCheapest (l : Launch) (G : GG) (ad : Nat → Nat) (sz : Nat) (d_ad : Pic) (dw : Int64) (x1 x2 x3 : Int32) (out : Int32) (hf : f_X9_isCheapest d_ad x1 x2 x3 = some out) : Met l yX9_isCheapest (.code yX9_isCheapest cX9_isCheapest 4 (some .boolean) :: BT) ({ frames := 0, cells := 0, slots := 0, locals := 0 }) (va_Pc [.ref (ad 99), .int x1, .int x2, .int x3] (PreW G sz (dO G ad d_ad dw ++ []))) (Ans G out (va_A (dO G ad d_ad dw ++ []) sz) (dO G ad d_ad dw ++ [])) 0 0 (va_A (dO G ad d_ad dw ++ []) sz) := by
  refine Met.into (by decide) (Nat.le_of_ble_eq_true rfl) ?_
  intro p e s m below meth c C hsz ls hl hw
  have hl : lv_has ls 4 [(0, .ref (ad 99)), (1, .int x1), (2, .int x2), (3, .int x3)] := hl
  clear hsz
  generalize va_A (dO G ad d_ad dw ++ []) sz = A at hw ⊢
  unfold f_X9_isCheapest at hf
  refine r_iload0 C hl 3 rfl dX9_isCheapest_0 ?_
  refine r_aload0 C hl 0 rfl dX9_isCheapest_1 ?_
  refine r_get C hw _ (gx_h dO_o) 34 fl_X9_51 rfl dX9_isCheapest_2 ?_
  refine r_iload0 C hl 1 rfl dX9_isCheapest_5 ?_
  refine r_iload0 C hl 2 rfl dX9_isCheapest_6 ?_
  refine lv_iadd C.1 C.2.1 dX9_isCheapest_7 ?_
  obtain ⟨v1_, e1, hf⟩ := bx hf
  refine r_iald C hw _ (gx_h dO_g34) e1 dX9_isCheapest_8 ?_
  refine lv_iadd C.1 C.2.1 dX9_isCheapest_9 ?_
  refine r_aload0 C hl 0 rfl dX9_isCheapest_10 ?_
  refine r_get C hw _ (gx_h dO_o) 34 fl_X9_51 rfl dX9_isCheapest_11 ?_
  refine r_iload0 C hl 1 rfl dX9_isCheapest_14 ?_
  obtain ⟨v2_, e2, hf⟩ := bx hf
  refine r_iald C hw _ (gx_h dO_g34) e2 dX9_isCheapest_15 ?_
  refine lv_icmp_ne (tgt := 23) C.1 C.2.1 dX9_isCheapest_16 (by decide) (fun hc => ?_) (fun hc => ?_)
  · replace hf := ifn hf hc
    refine lv_iconst (v := 0) C.1 C.2.1 dX9_isCheapest_23 (by decide) ?_
    exact fin_z C hw (by decide) (Option.some.inj hf) (fun o => o) (fun o => (dO G ad d_ad dw ++ [])) rfl rfl dX9_isCheapest_24
  · replace hf := ifp hf hc
    refine lv_iconst (v := 1) C.1 C.2.1 dX9_isCheapest_19 (by decide) ?_
    refine lv_goto (tgt := 24) C.1 C.2.1 dX9_isCheapest_20 (by decide) ?_
    exact fin_z C hw (by decide) (Option.some.inj hf) (fun o => o) (fun o => (dO G ad d_ad dw ++ [])) rfl rfl dX9_isCheapest_24
set_option maxHeartbeats 4000000 in
set_option maxRecDepth 100000 in
theorem c_X9_cutHere (l : Launch) (G : GG) (ad : Nat → Nat) (sz : Nat) (d_ad : Pic) (dw : Int64) (x1 x2 x3 x4 : Int32) (out : Pic) (hf : f_X9_cutHere d_ad x1 x2 x3 x4 = some out) : Met l yX9_cutHere (.code yX9_cutHere cX9_cutHere 5 none :: BT) ({ frames := 0, cells := 0, slots := 0, locals := 0 }) (va_Pc [.ref (ad 99), .int x1, .int x2, .int x3, .int x4] (PreW G sz (dO G ad d_ad dw ++ []))) (Don G (va_A (dO G ad d_ad dw ++ []) sz) (dO G ad out dw ++ [])) 0 0 (va_A (dO G ad d_ad dw ++ []) sz) := by
  refine Met.into (by decide) (Nat.le_of_ble_eq_true rfl) ?_
  intro p e s m below meth c C hsz ls hl hw
  have hl : lv_has ls 5 [(0, .ref (ad 99)), (1, .int x1), (2, .int x2), (3, .int x3), (4, .int x4)] := hl
  clear hsz
  generalize va_A (dO G ad d_ad dw ++ []) sz = A at hw ⊢
  unfold f_X9_cutHere at hf
  refine r_aload0 C hl 0 rfl dX9_cutHere_0 ?_
  refine r_get C hw _ (gx_h dO_o) 36 fl_X9_57 rfl dX9_cutHere_1 ?_
  refine r_aload0 C hl 0 rfl dX9_cutHere_4 ?_
  refine r_get C hw _ (gx_h dO_o) 40 fl_X9_252 rfl dX9_cutHere_5 ?_
  refine r_iload0 C hl 1 rfl dX9_cutHere_8 ?_
  obtain ⟨d_ad1, e1, hf⟩ := bx hf
  refine r_iast C hw _ (gx_h dO_g36) e1 (dO G ad d_ad1 dw ++ []) (fun h => (sx_h dO_g36 (dO_s36 h))) dX9_cutHere_9 (fun H locs hw => ?_)
  refine r_aload0 C hl 0 rfl dX9_cutHere_10 ?_
  refine r_get C hw _ (gx_h dO_o) 37 fl_X9_60 rfl dX9_cutHere_11 ?_
  refine r_aload0 C hl 0 rfl dX9_cutHere_14 ?_
  refine r_get C hw _ (gx_h dO_o) 40 fl_X9_252 rfl dX9_cutHere_15 ?_
  refine r_iload0 C hl 2 rfl dX9_cutHere_18 ?_
  obtain ⟨d_ad2, e2, hf⟩ := bx hf
  refine r_iast C hw _ (gx_h dO_g37) e2 (dO G ad d_ad2 dw ++ []) (fun h => (sx_h dO_g37 (dO_s37 h))) dX9_cutHere_19 (fun H locs hw => ?_)
  refine r_aload0 C hl 0 rfl dX9_cutHere_20 ?_
  refine r_get C hw _ (gx_h dO_o) 38 fl_X9_63 rfl dX9_cutHere_21 ?_
  refine r_aload0 C hl 0 rfl dX9_cutHere_24 ?_
  refine r_get C hw _ (gx_h dO_o) 40 fl_X9_252 rfl dX9_cutHere_25 ?_
  refine r_iload0 C hl 3 rfl dX9_cutHere_28 ?_
  obtain ⟨d_ad3, e3, hf⟩ := bx hf
  refine r_iast C hw _ (gx_h dO_g38) e3 (dO G ad d_ad3 dw ++ []) (fun h => (sx_h dO_g38 (dO_s38 h))) dX9_cutHere_29 (fun H locs hw => ?_)
  refine r_aload0 C hl 0 rfl dX9_cutHere_30 ?_
  refine r_get C hw _ (gx_h dO_o) 39 fl_X9_66 rfl dX9_cutHere_31 ?_
  refine r_aload0 C hl 0 rfl dX9_cutHere_34 ?_
  refine r_get C hw _ (gx_h dO_o) 40 fl_X9_252 rfl dX9_cutHere_35 ?_
  refine r_iload C hl 4 rfl dX9_cutHere_38 ?_
  obtain ⟨d_ad4, e4, hf⟩ := bx hf
  refine r_iast C hw _ (gx_h dO_g39) e4 (dO G ad d_ad4 dw ++ []) (fun h => (sx_h dO_g39 (dO_s39 h))) dX9_cutHere_40 (fun H locs hw => ?_)
  refine r_aload0 C hl 0 rfl dX9_cutHere_41 ?_
  refine lv_dup C.1 C.2.1 dX9_cutHere_42 rfl ?_
  refine r_get C hw _ (gx_h dO_o) 40 fl_X9_252 rfl dX9_cutHere_43 ?_
  refine lv_iconst (v := 1) C.1 C.2.1 dX9_cutHere_46 (by decide) ?_
  refine lv_iadd C.1 C.2.1 dX9_cutHere_47 ?_
  obtain ⟨d_ad5, e5, hf⟩ := bx hf
  refine r_put C hw _ (gx_h dO_o) 40 fp_X9_252 rfl rfl (Nat.le_of_ble_eq_true rfl) (dO G ad d_ad5 dw ++ []) (sx_h dO_o (dO_p40 e5)) dX9_cutHere_48 (fun H locs hw => ?_)
  exact fin_v C hw (Option.some.inj hf) (fun o => (dO G ad o dw ++ [])) rfl dX9_cutHere_51
set_option maxHeartbeats 4000000 in
set_option maxRecDepth 100000 in
theorem c_X9_cutsOne (l : Launch) (G : GG) (ad : Nat → Nat) (sz : Nat) (d_ad : Pic) (dw : Int64) (x1 : Int32) (out : Int32 × Pic) (hf : f_X9_cutsOne d_ad x1 = some out) : Met l yX9_cutsOne (.code yX9_cutsOne cX9_cutsOne 4 (some .int) :: BT) ({ frames := 1, cells := 0, slots := 0, locals := 24 }) (va_Pc [.ref (ad 99), .int x1] (PreW G sz (dO G ad d_ad dw ++ []))) (Ans G out.1 (va_A (dO G ad d_ad dw ++ []) sz) (dO G ad out.2 dw ++ [])) 0 0 (va_A (dO G ad d_ad dw ++ []) sz) := by
  refine Met.into (by decide) (Nat.le_of_ble_eq_true rfl) ?_
  intro p e s m below meth c C hsz ls hl hw
  have hl : lv_has ls 4 [(0, .ref (ad 99)), (1, .int x1)] := hl
  clear hsz
  generalize va_A (dO G ad d_ad dw ++ []) sz = A at hw ⊢
  have hB_120 : ∀ (k120 : Pic → Int32 → Option (Int32 × Pic)) (hk120 : ∀ (d_ad : Pic) (v2 : Int32), k120 d_ad v2 = some out → ∀ (H : Heap) (locs : List Loc), Wd G A s H locs (dO G ad d_ad dw ++ []) → ∀ ls : Array Slot, lv_has ls 4 [(0, .ref (ad 99)), (1, .int x1), (2, .int v2)] → W p l e ({ frames := 1, cells := 0, slots := 0, locals := 24 }) s m [.ref (ad 99), .int x1].toArray below meth c H locs 0 0 (MQ below (Ans G out.1 A (dO G ad out.2 dw ++ [])) [.ref (ad 99), .int x1].toArray s 0 0 A) (F0 m 120 ls [])), ∀ (d_ad : Pic) (v2 : Int32), b_X9_cutsOne_120 x1 k120 d_ad v2 = some out → ∀ (H : Heap) (locs : List Loc), Wd G A s H locs (dO G ad d_ad dw ++ []) → ∀ ls : Array Slot, lv_has ls 4 [(0, .ref (ad 99)), (1, .int x1), (2, .int v2)] → W p l e ({ frames := 1, cells := 0, slots := 0, locals := 24 }) s m [.ref (ad 99), .int x1].toArray below meth c H locs 0 0 (MQ below (Ans G out.1 A (dO G ad out.2 dw ++ [])) [.ref (ad 99), .int x1].toArray s 0 0 A) (F0 m 120 ls []) := by
    intro k120 hk120 d_ad v2 hf H locs hw ls hl
    unfold b_X9_cutsOne_120 at hf
    refine r_aload0 C hl 0 rfl dX9_cutsOne_120 ?_
    refine r_iload0 C hl 1 rfl dX9_cutsOne_121 ?_
    refine r_iload0 C hl 2 rfl dX9_cutsOne_122 ?_
    refine lv_iconst (v := 1) C.1 C.2.1 dX9_cutsOne_123 (by decide) ?_
    refine r_iload0 C hl 2 rfl dX9_cutsOne_124 ?_
    refine lv_iadd C.1 C.2.1 dX9_cutsOne_125 ?_
    obtain ⟨u2, e2, hf⟩ := bx hf
    refine r_callVi (ws' := (dO G ad d_ad dw ++ [])) (As := [.int x1, .int v2, .int (1 + v2)]) (rest := []) C hw hl.1 kX9_isCheapest ml_X9_255 (c_X9_isCheapest l G ad _ d_ad dw x1 v2 (1 + v2) u2 e2) (CutX.take dO_f CutX.none) _ (gx_h dO_o) rfl ⟨rfl, rfl⟩ ⟨Nat.le_of_ble_eq_true rfl, Nat.le_of_ble_eq_true rfl⟩ rfl ⟨Nat.zero_le _, Nat.zero_le _⟩ rfl (Nat.le_of_ble_eq_true rfl) dX9_cutsOne_126 (fun H locs hw => ?_)
    refine lv_if_ne (tgt := 138) C.1 C.2.1 dX9_cutsOne_129 (by decide) (fun hc => ?_) (fun hc => ?_)
    · replace hf := ifn hf hc
      refine r_aload0 C hl 0 rfl dX9_cutsOne_138 ?_
      refine lv_iconst (v := 2) C.1 C.2.1 dX9_cutsOne_139 (by decide) ?_
      refine r_iload0 C hl 1 rfl dX9_cutsOne_140 ?_
      refine r_iload0 C hl 2 rfl dX9_cutsOne_141 ?_
      refine lv_iconst (v := 0) C.1 C.2.1 dX9_cutsOne_142 (by decide) ?_
      obtain ⟨u3, e3, hf⟩ := bx hf
      refine r_callVv (ws' := (dO G ad u3 dw ++ [])) (As := [.int 2, .int x1, .int v2, .int 0]) (rest := []) C hw hl.1 kX9_cutHere ml_X9_258 (c_X9_cutHere l G ad _ d_ad dw 2 x1 v2 0 u3 e3) (CutX.take dO_f CutX.none) _ (gx_h dO_o) rfl ⟨rfl, rfl⟩ ⟨Nat.le_of_ble_eq_true rfl, Nat.le_of_ble_eq_true rfl⟩ rfl ⟨Nat.zero_le _, Nat.zero_le _⟩ rfl (Nat.le_of_ble_eq_true rfl) dX9_cutsOne_143 (fun H locs hw => ?_)
      refine r_iload0 C hl 2 rfl dX9_cutsOne_146 ?_
      exact fin_i C hw (Option.some.inj hf) (fun o => o.1) (fun o => (dO G ad o.2 dw ++ [])) rfl rfl dX9_cutsOne_147
    · replace hf := ifp hf hc
      refine r_iinc C hl 2 (v2 + (-1)) [(2, .int (v2 + (-1))), (0, .ref (ad 99)), (1, .int x1)] rfl (iinc_e (by decide)) (by decide) rfl dX9_cutsOne_132 (fun ls hl => ?_)
      refine lv_goto (tgt := 120) C.1 C.2.1 dX9_cutsOne_135 (by decide) ?_
      exact hk120 d_ad (v2 + (-1)) hf _ _ hw _ (lv_sub hl [1, 2, 0] rfl)
  have hL_120 : ∀ n : Nat, ∀ (d_ad : Pic) (v2 : Int32), L_X9_cutsOne_120 x1  n d_ad v2 = some out → ∀ (H : Heap) (locs : List Loc), Wd G A s H locs (dO G ad d_ad dw ++ []) → ∀ ls : Array Slot, lv_has ls 4 [(0, .ref (ad 99)), (1, .int x1), (2, .int v2)] → W p l e ({ frames := 1, cells := 0, slots := 0, locals := 24 }) s m [.ref (ad 99), .int x1].toArray below meth c H locs 0 0 (MQ below (Ans G out.1 A (dO G ad out.2 dw ++ [])) [.ref (ad 99), .int x1].toArray s 0 0 A) (F0 m 120 ls []) := by
    intro  n
    induction n with
    | zero => intro d_ad v2 hf; cases hf
    | succ n ih => exact hB_120 _ ih
  have hB_50 : ∀ (k43 : Pic → Int32 → Option (Int32 × Pic)) (hk43 : ∀ (d_ad : Pic) (v2 : Int32), k43 d_ad v2 = some out → ∀ (H : Heap) (locs : List Loc), Wd G A s H locs (dO G ad d_ad dw ++ []) → ∀ ls : Array Slot, lv_has ls 4 [(0, .ref (ad 99)), (1, .int x1), (2, .int v2)] → W p l e ({ frames := 1, cells := 0, slots := 0, locals := 24 }) s m [.ref (ad 99), .int x1].toArray below meth c H locs 0 0 (MQ below (Ans G out.1 A (dO G ad out.2 dw ++ [])) [.ref (ad 99), .int x1].toArray s 0 0 A) (F0 m 43 ls [])) (k50 : Pic → Int32 → Int32 → Option (Int32 × Pic)) (hk50 : ∀ (d_ad : Pic) (v2 : Int32) (v3 : Int32), k50 d_ad v2 v3 = some out → ∀ (H : Heap) (locs : List Loc), Wd G A s H locs (dO G ad d_ad dw ++ []) → ∀ ls : Array Slot, lv_has ls 4 [(0, .ref (ad 99)), (1, .int x1), (2, .int v2), (3, .int v3)] → W p l e ({ frames := 1, cells := 0, slots := 0, locals := 24 }) s m [.ref (ad 99), .int x1].toArray below meth c H locs 0 0 (MQ below (Ans G out.1 A (dO G ad out.2 dw ++ [])) [.ref (ad 99), .int x1].toArray s 0 0 A) (F0 m 50 ls [])), ∀ (d_ad : Pic) (v2 : Int32) (v3 : Int32), b_X9_cutsOne_50 x1 k43 k50 d_ad v2 v3 = some out → ∀ (H : Heap) (locs : List Loc), Wd G A s H locs (dO G ad d_ad dw ++ []) → ∀ ls : Array Slot, lv_has ls 4 [(0, .ref (ad 99)), (1, .int x1), (2, .int v2), (3, .int v3)] → W p l e ({ frames := 1, cells := 0, slots := 0, locals := 24 }) s m [.ref (ad 99), .int x1].toArray below meth c H locs 0 0 (MQ below (Ans G out.1 A (dO G ad out.2 dw ++ [])) [.ref (ad 99), .int x1].toArray s 0 0 A) (F0 m 50 ls []) := by
    intro k43 hk43 k50 hk50 d_ad v2 v3 hf H locs hw ls hl
    unfold b_X9_cutsOne_50 at hf
    refine r_iload0 C hl 3 rfl dX9_cutsOne_50 ?_
    refine lv_bipush (v := 15) C.1 C.2.1 dX9_cutsOne_51 (by decide) ?_
    refine lv_icmp_gt (tgt := 95) C.1 C.2.1 dX9_cutsOne_53 (by decide) (fun hc => ?_) (fun hc => ?_)
    · replace hf := ifp hf hc
      refine r_iinc C hl 2 (v2 + (-1)) [(2, .int (v2 + (-1))), (0, .ref (ad 99)), (1, .int x1), (3, .int v3)] rfl (iinc_e (by decide)) (by decide) rfl dX9_cutsOne_95 (fun ls hl => ?_)
      refine lv_goto (tgt := 43) C.1 C.2.1 dX9_cutsOne_98 (by decide) ?_
      exact hk43 d_ad (v2 + (-1)) hf _ _ hw _ (lv_sub hl [1, 2, 0] rfl)
    · replace hf := ifn hf hc
      refine r_aload0 C hl 0 rfl dX9_cutsOne_56 ?_
      refine r_iload0 C hl 1 rfl dX9_cutsOne_57 ?_
      refine r_iload0 C hl 3 rfl dX9_cutsOne_58 ?_
      obtain ⟨u4, e4, hf⟩ := bx hf
      refine r_callVi (ws' := (dO G ad d_ad dw ++ [])) (As := [.int x1, .int v3]) (rest := []) C hw hl.1 kX9_copyAt ml_X9_249 (c_X9_copyAt l G ad _ d_ad dw x1 v3 u4 e4) (CutX.take dO_f CutX.none) _ (gx_h dO_o) rfl ⟨rfl, rfl⟩ ⟨Nat.le_of_ble_eq_true rfl, Nat.le_of_ble_eq_true rfl⟩ rfl ⟨Nat.zero_le _, Nat.zero_le _⟩ rfl (Nat.le_of_ble_eq_true rfl) dX9_cutsOne_59 (fun H locs hw => ?_)
      refine r_iload0 C hl 2 rfl dX9_cutsOne_62 ?_
      refine lv_icmp_lt (tgt := 89) C.1 C.2.1 dX9_cutsOne_63 (by decide) (fun hc => ?_) (fun hc => ?_)
      · replace hf := ifp hf hc
        refine r_iinc C hl 3 (v3 + 1) [(3, .int (v3 + 1)), (0, .ref (ad 99)), (1, .int x1), (2, .int v2)] rfl (iinc_e (by decide)) (by decide) rfl dX9_cutsOne_89 (fun ls hl => ?_)
        refine lv_goto (tgt := 50) C.1 C.2.1 dX9_cutsOne_92 (by decide) ?_
        exact hk50 d_ad v2 (v3 + 1) hf _ _ hw _ (lv_sub hl [1, 2, 3, 0] rfl)
      · replace hf := ifn hf hc
        refine r_aload0 C hl 0 rfl dX9_cutsOne_66 ?_
        refine r_iload0 C hl 1 rfl dX9_cutsOne_67 ?_
        refine r_iload0 C hl 2 rfl dX9_cutsOne_68 ?_
        refine lv_iconst (v := 3) C.1 C.2.1 dX9_cutsOne_69 (by decide) ?_
        obtain ⟨u5, e5, hf⟩ := bx hf
        refine r_callVi (ws' := (dO G ad d_ad dw ++ [])) (As := [.int x1, .int v2, .int 3]) (rest := []) C hw hl.1 kX9_isCheapest ml_X9_255 (c_X9_isCheapest l G ad _ d_ad dw x1 v2 3 u5 e5) (CutX.take dO_f CutX.none) _ (gx_h dO_o) rfl ⟨rfl, rfl⟩ ⟨Nat.le_of_ble_eq_true rfl, Nat.le_of_ble_eq_true rfl⟩ rfl ⟨Nat.zero_le _, Nat.zero_le _⟩ rfl (Nat.le_of_ble_eq_true rfl) dX9_cutsOne_70 (fun H locs hw => ?_)
        refine lv_if_ne (tgt := 79) C.1 C.2.1 dX9_cutsOne_73 (by decide) (fun hc => ?_) (fun hc => ?_)
        · replace hf := ifn hf hc
          refine r_aload0 C hl 0 rfl dX9_cutsOne_79 ?_
          refine lv_iconst (v := 1) C.1 C.2.1 dX9_cutsOne_80 (by decide) ?_
          refine r_iload0 C hl 1 rfl dX9_cutsOne_81 ?_
          refine r_iload0 C hl 2 rfl dX9_cutsOne_82 ?_
          refine r_iload0 C hl 3 rfl dX9_cutsOne_83 ?_
          obtain ⟨u6, e6, hf⟩ := bx hf
          refine r_callVv (ws' := (dO G ad u6 dw ++ [])) (As := [.int 1, .int x1, .int v2, .int v3]) (rest := []) C hw hl.1 kX9_cutHere ml_X9_258 (c_X9_cutHere l G ad _ d_ad dw 1 x1 v2 v3 u6 e6) (CutX.take dO_f CutX.none) _ (gx_h dO_o) rfl ⟨rfl, rfl⟩ ⟨Nat.le_of_ble_eq_true rfl, Nat.le_of_ble_eq_true rfl⟩ rfl ⟨Nat.zero_le _, Nat.zero_le _⟩ rfl (Nat.le_of_ble_eq_true rfl) dX9_cutsOne_84 (fun H locs hw => ?_)
          refine r_iload0 C hl 2 rfl dX9_cutsOne_87 ?_
          exact fin_i C hw (Option.some.inj hf) (fun o => o.1) (fun o => (dO G ad o.2 dw ++ [])) rfl rfl dX9_cutsOne_88
        · replace hf := ifp hf hc
          refine lv_goto (tgt := 89) C.1 C.2.1 dX9_cutsOne_76 (by decide) ?_
          refine r_iinc C hl 3 (v3 + 1) [(3, .int (v3 + 1)), (0, .ref (ad 99)), (1, .int x1), (2, .int v2)] rfl (iinc_e (by decide)) (by decide) rfl dX9_cutsOne_89 (fun ls hl => ?_)
          refine lv_goto (tgt := 50) C.1 C.2.1 dX9_cutsOne_92 (by decide) ?_
          exact hk50 d_ad v2 (v3 + 1) hf _ _ hw _ (lv_sub hl [1, 2, 3, 0] rfl)
  have hL_50 : ∀ (k43 : Pic → Int32 → Option (Int32 × Pic)) (hk43 : ∀ (d_ad : Pic) (v2 : Int32), k43 d_ad v2 = some out → ∀ (H : Heap) (locs : List Loc), Wd G A s H locs (dO G ad d_ad dw ++ []) → ∀ ls : Array Slot, lv_has ls 4 [(0, .ref (ad 99)), (1, .int x1), (2, .int v2)] → W p l e ({ frames := 1, cells := 0, slots := 0, locals := 24 }) s m [.ref (ad 99), .int x1].toArray below meth c H locs 0 0 (MQ below (Ans G out.1 A (dO G ad out.2 dw ++ [])) [.ref (ad 99), .int x1].toArray s 0 0 A) (F0 m 43 ls [])), ∀ n : Nat, ∀ (d_ad : Pic) (v2 : Int32) (v3 : Int32), L_X9_cutsOne_50 x1 k43 n d_ad v2 v3 = some out → ∀ (H : Heap) (locs : List Loc), Wd G A s H locs (dO G ad d_ad dw ++ []) → ∀ ls : Array Slot, lv_has ls 4 [(0, .ref (ad 99)), (1, .int x1), (2, .int v2), (3, .int v3)] → W p l e ({ frames := 1, cells := 0, slots := 0, locals := 24 }) s m [.ref (ad 99), .int x1].toArray below meth c H locs 0 0 (MQ below (Ans G out.1 A (dO G ad out.2 dw ++ [])) [.ref (ad 99), .int x1].toArray s 0 0 A) (F0 m 50 ls []) := by
    intro k43 hk43 n
    induction n with
    | zero => intro d_ad v2 v3 hf; cases hf
    | succ n ih => exact hB_50 k43 hk43 _ ih
  have hB_43 : ∀ (k43 : Pic → Int32 → Option (Int32 × Pic)) (hk43 : ∀ (d_ad : Pic) (v2 : Int32), k43 d_ad v2 = some out → ∀ (H : Heap) (locs : List Loc), Wd G A s H locs (dO G ad d_ad dw ++ []) → ∀ ls : Array Slot, lv_has ls 4 [(0, .ref (ad 99)), (1, .int x1), (2, .int v2)] → W p l e ({ frames := 1, cells := 0, slots := 0, locals := 24 }) s m [.ref (ad 99), .int x1].toArray below meth c H locs 0 0 (MQ below (Ans G out.1 A (dO G ad out.2 dw ++ [])) [.ref (ad 99), .int x1].toArray s 0 0 A) (F0 m 43 ls [])), ∀ (d_ad : Pic) (v2 : Int32), b_X9_cutsOne_43 x1 k43 d_ad v2 = some out → ∀ (H : Heap) (locs : List Loc), Wd G A s H locs (dO G ad d_ad dw ++ []) → ∀ ls : Array Slot, lv_has ls 4 [(0, .ref (ad 99)), (1, .int x1), (2, .int v2)] → W p l e ({ frames := 1, cells := 0, slots := 0, locals := 24 }) s m [.ref (ad 99), .int x1].toArray below meth c H locs 0 0 (MQ below (Ans G out.1 A (dO G ad out.2 dw ++ [])) [.ref (ad 99), .int x1].toArray s 0 0 A) (F0 m 43 ls []) := by
    intro k43 hk43 d_ad v2 hf H locs hw ls hl
    unfold b_X9_cutsOne_43 at hf
    refine r_iload0 C hl 2 rfl dX9_cutsOne_43 ?_
    refine lv_iconst (v := 1) C.1 C.2.1 dX9_cutsOne_44 (by decide) ?_
    refine lv_icmp_le (tgt := 101) C.1 C.2.1 dX9_cutsOne_45 (by decide) (fun hc => ?_) (fun hc => ?_)
    · replace hf := ifp hf hc
      refine lv_bipush (v := 16) C.1 C.2.1 dX9_cutsOne_101 (by decide) ?_
      refine r_iload0 C hl 1 rfl dX9_cutsOne_103 ?_
      refine lv_isub C.1 C.2.1 dX9_cutsOne_104 ?_
      refine lv_bipush (v := 8) C.1 C.2.1 dX9_cutsOne_105 (by decide) ?_
      refine lv_icmp_ge (tgt := 117) C.1 C.2.1 dX9_cutsOne_107 (by decide) (fun hc => ?_) (fun hc => ?_)
      · replace hf := ifp hf hc
        refine lv_bipush (v := 8) C.1 C.2.1 dX9_cutsOne_117 (by decide) ?_
        refine r_istore0 C hl [(2, .int 8), (0, .ref (ad 99)), (1, .int x1)] (by decide) rfl dX9_cutsOne_119 (fun ls hl => ?_)
        exact hL_120  FU d_ad 8 hf _ _ hw _ (lv_sub hl [1, 2, 0] rfl)
      · replace hf := ifn hf hc
        refine lv_bipush (v := 16) C.1 C.2.1 dX9_cutsOne_110 (by decide) ?_
        refine r_iload0 C hl 1 rfl dX9_cutsOne_112 ?_
        refine lv_isub C.1 C.2.1 dX9_cutsOne_113 ?_
        refine lv_goto (tgt := 119) C.1 C.2.1 dX9_cutsOne_114 (by decide) ?_
        refine r_istore0 C hl [(2, .int (16 - x1)), (0, .ref (ad 99)), (1, .int x1)] (by decide) rfl dX9_cutsOne_119 (fun ls hl => ?_)
        exact hL_120  FU d_ad (16 - x1) hf _ _ hw _ (lv_sub hl [1, 2, 0] rfl)
    · replace hf := ifn hf hc
      refine lv_iconst (v := 2) C.1 C.2.1 dX9_cutsOne_48 (by decide) ?_
      refine r_istore0 C hl [(3, .int 2), (0, .ref (ad 99)), (1, .int x1), (2, .int v2)] (by decide) rfl dX9_cutsOne_49 (fun ls hl => ?_)
      exact hL_50 k43 hk43 FU d_ad v2 2 hf _ _ hw _ (lv_sub hl [1, 2, 3, 0] rfl)
  have hL_43 : ∀ n : Nat, ∀ (d_ad : Pic) (v2 : Int32), L_X9_cutsOne_43 x1  n d_ad v2 = some out → ∀ (H : Heap) (locs : List Loc), Wd G A s H locs (dO G ad d_ad dw ++ []) → ∀ ls : Array Slot, lv_has ls 4 [(0, .ref (ad 99)), (1, .int x1), (2, .int v2)] → W p l e ({ frames := 1, cells := 0, slots := 0, locals := 24 }) s m [.ref (ad 99), .int x1].toArray below meth c H locs 0 0 (MQ below (Ans G out.1 A (dO G ad out.2 dw ++ [])) [.ref (ad 99), .int x1].toArray s 0 0 A) (F0 m 43 ls []) := by
    intro  n
    induction n with
    | zero => intro d_ad v2 hf; cases hf
    | succ n ih => exact hB_43 _ ih
  have hB_6 : ∀ (k6 : Pic → Int32 → Option (Int32 × Pic)) (hk6 : ∀ (d_ad : Pic) (v2 : Int32), k6 d_ad v2 = some out → ∀ (H : Heap) (locs : List Loc), Wd G A s H locs (dO G ad d_ad dw ++ []) → ∀ ls : Array Slot, lv_has ls 4 [(0, .ref (ad 99)), (1, .int x1), (2, .int v2)] → W p l e ({ frames := 1, cells := 0, slots := 0, locals := 24 }) s m [.ref (ad 99), .int x1].toArray below meth c H locs 0 0 (MQ below (Ans G out.1 A (dO G ad out.2 dw ++ [])) [.ref (ad 99), .int x1].toArray s 0 0 A) (F0 m 6 ls [])), ∀ (d_ad : Pic) (v2 : Int32), b_X9_cutsOne_6 x1 k6 d_ad v2 = some out → ∀ (H : Heap) (locs : List Loc), Wd G A s H locs (dO G ad d_ad dw ++ []) → ∀ ls : Array Slot, lv_has ls 4 [(0, .ref (ad 99)), (1, .int x1), (2, .int v2)] → W p l e ({ frames := 1, cells := 0, slots := 0, locals := 24 }) s m [.ref (ad 99), .int x1].toArray below meth c H locs 0 0 (MQ below (Ans G out.1 A (dO G ad out.2 dw ++ [])) [.ref (ad 99), .int x1].toArray s 0 0 A) (F0 m 6 ls []) := by
    intro k6 hk6 d_ad v2 hf H locs hw ls hl
    unfold b_X9_cutsOne_6 at hf
    refine r_iload0 C hl 2 rfl dX9_cutsOne_6 ?_
    refine lv_iconst (v := 1) C.1 C.2.1 dX9_cutsOne_7 (by decide) ?_
    refine lv_icmp_le (tgt := 40) C.1 C.2.1 dX9_cutsOne_8 (by decide) (fun hc => ?_) (fun hc => ?_)
    · replace hf := ifp hf hc
      refine lv_bipush (v := 8) C.1 C.2.1 dX9_cutsOne_40 (by decide) ?_
      refine r_istore0 C hl [(2, .int 8), (0, .ref (ad 99)), (1, .int x1)] (by decide) rfl dX9_cutsOne_42 (fun ls hl => ?_)
      exact hL_43  FU d_ad 8 hf _ _ hw _ (lv_sub hl [1, 2, 0] rfl)
    · replace hf := ifn hf hc
      refine r_aload0 C hl 0 rfl dX9_cutsOne_11 ?_
      refine r_iload0 C hl 1 rfl dX9_cutsOne_12 ?_
      refine r_iload0 C hl 2 rfl dX9_cutsOne_13 ?_
      refine lv_iconst (v := 2) C.1 C.2.1 dX9_cutsOne_14 (by decide) ?_
      obtain ⟨u7, e7, hf⟩ := bx hf
      refine r_callVi (ws' := (dO G ad d_ad dw ++ [])) (As := [.int x1, .int v2, .int 2]) (rest := []) C hw hl.1 kX9_isCheapest ml_X9_255 (c_X9_isCheapest l G ad _ d_ad dw x1 v2 2 u7 e7) (CutX.take dO_f CutX.none) _ (gx_h dO_o) rfl ⟨rfl, rfl⟩ ⟨Nat.le_of_ble_eq_true rfl, Nat.le_of_ble_eq_true rfl⟩ rfl ⟨Nat.zero_le _, Nat.zero_le _⟩ rfl (Nat.le_of_ble_eq_true rfl) dX9_cutsOne_15 (fun H locs hw => ?_)
      refine lv_if_ne (tgt := 24) C.1 C.2.1 dX9_cutsOne_18 (by decide) (fun hc => ?_) (fun hc => ?_)
      · replace hf := ifn hf hc
        refine r_aload0 C hl 0 rfl dX9_cutsOne_24 ?_
        refine lv_iconst (v := 0) C.1 C.2.1 dX9_cutsOne_25 (by decide) ?_
        refine r_iload0 C hl 1 rfl dX9_cutsOne_26 ?_
        refine r_iload0 C hl 2 rfl dX9_cutsOne_27 ?_
        refine lv_iconst (v := 0) C.1 C.2.1 dX9_cutsOne_28 (by decide) ?_
        obtain ⟨u8, e8, hf⟩ := bx hf
        refine r_callVv (ws' := (dO G ad u8 dw ++ [])) (As := [.int 0, .int x1, .int v2, .int 0]) (rest := []) C hw hl.1 kX9_cutHere ml_X9_258 (c_X9_cutHere l G ad _ d_ad dw 0 x1 v2 0 u8 e8) (CutX.take dO_f CutX.none) _ (gx_h dO_o) rfl ⟨rfl, rfl⟩ ⟨Nat.le_of_ble_eq_true rfl, Nat.le_of_ble_eq_true rfl⟩ rfl ⟨Nat.zero_le _, Nat.zero_le _⟩ rfl (Nat.le_of_ble_eq_true rfl) dX9_cutsOne_29 (fun H locs hw => ?_)
        refine r_iload0 C hl 2 rfl dX9_cutsOne_32 ?_
        exact fin_i C hw (Option.some.inj hf) (fun o => o.1) (fun o => (dO G ad o.2 dw ++ [])) rfl rfl dX9_cutsOne_33
      · replace hf := ifp hf hc
        refine lv_goto (tgt := 34) C.1 C.2.1 dX9_cutsOne_21 (by decide) ?_
        refine r_iinc C hl 2 (v2 + (-1)) [(2, .int (v2 + (-1))), (0, .ref (ad 99)), (1, .int x1)] rfl (iinc_e (by decide)) (by decide) rfl dX9_cutsOne_34 (fun ls hl => ?_)
        refine lv_goto (tgt := 6) C.1 C.2.1 dX9_cutsOne_37 (by decide) ?_
        exact hk6 d_ad (v2 + (-1)) hf _ _ hw _ (lv_sub hl [1, 2, 0] rfl)
  have hL_6 : ∀ n : Nat, ∀ (d_ad : Pic) (v2 : Int32), L_X9_cutsOne_6 x1  n d_ad v2 = some out → ∀ (H : Heap) (locs : List Loc), Wd G A s H locs (dO G ad d_ad dw ++ []) → ∀ ls : Array Slot, lv_has ls 4 [(0, .ref (ad 99)), (1, .int x1), (2, .int v2)] → W p l e ({ frames := 1, cells := 0, slots := 0, locals := 24 }) s m [.ref (ad 99), .int x1].toArray below meth c H locs 0 0 (MQ below (Ans G out.1 A (dO G ad out.2 dw ++ [])) [.ref (ad 99), .int x1].toArray s 0 0 A) (F0 m 6 ls []) := by
    intro  n
    induction n with
    | zero => intro d_ad v2 hf; cases hf
    | succ n ih => exact hB_6 _ ih
  unfold f_X9_cutsOne at hf
  refine r_aload0 C hl 0 rfl dX9_cutsOne_0 ?_
  refine r_iload0 C hl 1 rfl dX9_cutsOne_1 ?_
  obtain ⟨u1, e1, hf⟩ := bx hf
  refine r_callVi (ws' := (dO G ad d_ad dw ++ [])) (As := [.int x1]) (rest := []) C hw hl.1 kX9_runAt ml_X9_242 (c_X9_runAt l G ad _ d_ad dw x1 u1 e1) (CutX.take dO_f CutX.none) _ (gx_h dO_o) rfl ⟨rfl, rfl⟩ ⟨Nat.le_of_ble_eq_true rfl, Nat.le_of_ble_eq_true rfl⟩ rfl ⟨Nat.zero_le _, Nat.zero_le _⟩ rfl (Nat.le_of_ble_eq_true rfl) dX9_cutsOne_2 (fun H locs hw => ?_)
  refine r_istore0 C hl [(2, .int u1), (0, .ref (ad 99)), (1, .int x1)] (by decide) rfl dX9_cutsOne_5 (fun ls hl => ?_)
  exact hL_6  FU d_ad u1 hf _ _ hw _ (lv_sub hl [1, 2, 0] rfl)
set_option maxHeartbeats 4000000 in
set_option maxRecDepth 100000 in
theorem c_X9_cutAll (l : Launch) (G : GG) (ad : Nat → Nat) (sz : Nat) (d_ad : Pic) (dw : Int64) (x1 : Int32) (out : Int32 × Pic) (hf : f_X9_cutAll d_ad x1 = some out) : Met l yX9_cutAll (.code yX9_cutAll cX9_cutAll 3 (some .int) :: BT) ({ frames := 2, cells := 0, slots := 0, locals := 48 }) (va_Pc [.ref (ad 99), .int x1] (PreW G sz (dO G ad d_ad dw ++ []))) (Ans G out.1 (va_A (dO G ad d_ad dw ++ []) sz) (dO G ad out.2 dw ++ [])) 0 0 (va_A (dO G ad d_ad dw ++ []) sz) := by
  refine Met.into (by decide) (Nat.le_of_ble_eq_true rfl) ?_
  intro p e s m below meth c C hsz ls hl hw
  have hl : lv_has ls 3 [(0, .ref (ad 99)), (1, .int x1)] := hl
  clear hsz
  generalize va_A (dO G ad d_ad dw ++ []) sz = A at hw ⊢
  have hB_16 : ∀ (k16 : Pic → Int32 → Option (Int32 × Pic)) (hk16 : ∀ (d_ad : Pic) (v2 : Int32), k16 d_ad v2 = some out → ∀ (H : Heap) (locs : List Loc), Wd G A s H locs (dO G ad d_ad dw ++ []) → ∀ ls : Array Slot, lv_has ls 3 [(0, .ref (ad 99)), (2, .int v2)] → W p l e ({ frames := 2, cells := 0, slots := 0, locals := 48 }) s m [.ref (ad 99), .int x1].toArray below meth c H locs 0 0 (MQ below (Ans G out.1 A (dO G ad out.2 dw ++ [])) [.ref (ad 99), .int x1].toArray s 0 0 A) (F0 m 16 ls [])), ∀ (d_ad : Pic) (v2 : Int32), b_X9_cutAll_16 x1 k16 d_ad v2 = some out → ∀ (H : Heap) (locs : List Loc), Wd G A s H locs (dO G ad d_ad dw ++ []) → ∀ ls : Array Slot, lv_has ls 3 [(0, .ref (ad 99)), (2, .int v2)] → W p l e ({ frames := 2, cells := 0, slots := 0, locals := 48 }) s m [.ref (ad 99), .int x1].toArray below meth c H locs 0 0 (MQ below (Ans G out.1 A (dO G ad out.2 dw ++ [])) [.ref (ad 99), .int x1].toArray s 0 0 A) (F0 m 16 ls []) := by
    intro k16 hk16 d_ad v2 hf H locs hw ls hl
    unfold b_X9_cutAll_16 at hf
    refine r_iload0 C hl 1 rfl dX9_cutAll_16 ?_
    refine lv_bipush (v := 16) C.1 C.2.1 dX9_cutAll_17 (by decide) ?_
    refine lv_icmp_ge (tgt := 33) C.1 C.2.1 dX9_cutAll_19 (by decide) (fun hc => ?_) (fun hc => ?_)
    · replace hf := ifp hf hc
      refine r_aload0 C hl 0 rfl dX9_cutAll_33 ?_
      refine r_get C hw _ (gx_h dO_o) 34 fl_X9_51 rfl dX9_cutAll_34 ?_
      refine lv_iconst (v := 0) C.1 C.2.1 dX9_cutAll_37 (by decide) ?_
      obtain ⟨v4_, e4, hf⟩ := bx hf
      refine r_iald C hw _ (gx_h dO_g34) e4 dX9_cutAll_38 ?_
      exact fin_i C hw (Option.some.inj hf) (fun o => o.1) (fun o => (dO G ad o.2 dw ++ [])) rfl rfl dX9_cutAll_39
    · replace hf := ifn hf hc
      refine r_iload0 C hl 1 rfl dX9_cutAll_22 ?_
      refine r_aload0 C hl 0 rfl dX9_cutAll_23 ?_
      refine r_iload0 C hl 1 rfl dX9_cutAll_24 ?_
      obtain ⟨u5, e5, hf⟩ := bx hf
      refine r_callVi (ws' := (dO G ad u5.2 dw ++ [])) (As := [.int v2]) (rest := [.int v2]) C hw hl.1 kX9_cutsOne ml_X9_268 (c_X9_cutsOne l G ad _ d_ad dw v2 u5 e5) (CutX.take dO_f CutX.none) _ (gx_h dO_o) rfl ⟨rfl, rfl⟩ ⟨Nat.le_of_ble_eq_true rfl, Nat.le_of_ble_eq_true rfl⟩ rfl ⟨Nat.zero_le _, Nat.zero_le _⟩ rfl (Nat.le_of_ble_eq_true rfl) dX9_cutAll_25 (fun H locs hw => ?_)
      refine lv_iadd C.1 C.2.1 dX9_cutAll_28 ?_
      refine r_istore0 C hl [(2, .int (v2 + u5.1)), (0, .ref (ad 99))] (by decide) rfl dX9_cutAll_29 (fun ls hl => ?_)
      refine lv_goto (tgt := 16) C.1 C.2.1 dX9_cutAll_30 (by decide) ?_
      exact hk16 u5.2 (v2 + u5.1) hf _ _ hw _ (lv_sub hl [1, 0] rfl)
  have hL_16 : ∀ n : Nat, ∀ (d_ad : Pic) (v2 : Int32), L_X9_cutAll_16 x1  n d_ad v2 = some out → ∀ (H : Heap) (locs : List Loc), Wd G A s H locs (dO G ad d_ad dw ++ []) → ∀ ls : Array Slot, lv_has ls 3 [(0, .ref (ad 99)), (2, .int v2)] → W p l e ({ frames := 2, cells := 0, slots := 0, locals := 48 }) s m [.ref (ad 99), .int x1].toArray below meth c H locs 0 0 (MQ below (Ans G out.1 A (dO G ad out.2 dw ++ [])) [.ref (ad 99), .int x1].toArray s 0 0 A) (F0 m 16 ls []) := by
    intro  n
    induction n with
    | zero => intro d_ad v2 hf; cases hf
    | succ n ih => exact hB_16 _ ih
  unfold f_X9_cutAll at hf
  refine r_aload0 C hl 0 rfl dX9_cutAll_0 ?_
  refine r_iload0 C hl 1 rfl dX9_cutAll_1 ?_
  obtain ⟨u1, e1, hf⟩ := bx hf
  refine r_callVv (ws' := (dO G ad u1 dw ++ [])) (As := [.int x1]) (rest := []) C hw hl.1 kX9_takes ml_X9_262 (c_X9_takes l G ad _ d_ad dw x1 u1 e1) (CutX.take dO_f CutX.none) _ (gx_h dO_o) rfl ⟨rfl, rfl⟩ ⟨Nat.le_of_ble_eq_true rfl, Nat.le_of_ble_eq_true rfl⟩ rfl ⟨Nat.zero_le _, Nat.zero_le _⟩ rfl (Nat.le_of_ble_eq_true rfl) dX9_cutAll_2 (fun H locs hw => ?_)
  refine r_aload0 C hl 0 rfl dX9_cutAll_5 ?_
  obtain ⟨u2, e2, hf⟩ := bx hf
  refine r_callVv (ws' := (dO G ad u2 dw ++ [])) (As := []) (rest := []) C hw hl.1 kX9_laysLeast ml_X9_265 (c_X9_laysLeast l G ad _ u1 dw u2 e2) (CutX.take dO_f CutX.none) _ (gx_h dO_o) rfl ⟨rfl, rfl⟩ ⟨Nat.le_of_ble_eq_true rfl, Nat.le_of_ble_eq_true rfl⟩ rfl ⟨Nat.zero_le _, Nat.zero_le _⟩ rfl (Nat.le_of_ble_eq_true rfl) dX9_cutAll_6 (fun H locs hw => ?_)
  refine r_aload0 C hl 0 rfl dX9_cutAll_9 ?_
  refine lv_iconst (v := 0) C.1 C.2.1 dX9_cutAll_10 (by decide) ?_
  obtain ⟨d_ad3, e3, hf⟩ := bx hf
  refine r_put C hw _ (gx_h dO_o) 40 fp_X9_252 rfl rfl (Nat.le_of_ble_eq_true rfl) (dO G ad d_ad3 dw ++ []) (sx_h dO_o (dO_p40 e3)) dX9_cutAll_11 (fun H locs hw => ?_)
  refine lv_iconst (v := 0) C.1 C.2.1 dX9_cutAll_14 (by decide) ?_
  refine r_istore0 C hl [(2, .int 0), (0, .ref (ad 99)), (1, .int x1)] (by decide) rfl dX9_cutAll_15 (fun ls hl => ?_)
  exact hL_16  FU d_ad3 0 hf _ _ hw _ (lv_sub hl [1, 0] rfl)
set_option maxHeartbeats 4000000 in
set_option maxRecDepth 100000 in
theorem c_X9_areAlike (l : Launch) (G : GG) (ad : Nat → Nat) (sz : Nat) (d_ad : Pic) (dw : Int64) (x1 : Int32) (out : Int32 × Pic) (hf : f_X9_areAlike d_ad x1 = some out) : Met l yX9_areAlike (.code yX9_areAlike cX9_areAlike 2 (some .boolean) :: BT) ({ frames := 1, cells := 0, slots := 0, locals := 22 }) (va_Pc [.ref (ad 99), .int x1] (PreW G sz (dO G ad d_ad dw ++ []))) (Ans G out.1 (va_A (dO G ad d_ad dw ++ []) sz) (dO G ad out.2 dw ++ [])) 0 0 (va_A (dO G ad d_ad dw ++ []) sz) := by
  refine Met.into (by decide) (Nat.le_of_ble_eq_true rfl) ?_
  intro p e s m below meth c C hsz ls hl hw
  have hl : lv_has ls 2 [(0, .ref (ad 99)), (1, .int x1)] := hl
  clear hsz
  generalize va_A (dO G ad d_ad dw ++ []) sz = A at hw ⊢
  unfold f_X9_areAlike at hf
  refine r_aload0 C hl 0 rfl dX9_areAlike_0 ?_
  refine r_iload0 C hl 1 rfl dX9_areAlike_1 ?_
  obtain ⟨u1, e1, hf⟩ := bx hf
  refine r_callVv (ws' := (dO G ad u1 dw ++ [])) (As := [.int x1]) (rest := []) C hw hl.1 kX9_takes ml_X9_262 (c_X9_takes l G ad _ d_ad dw x1 u1 e1) (CutX.take dO_f CutX.none) _ (gx_h dO_o) rfl ⟨rfl, rfl⟩ ⟨Nat.le_of_ble_eq_true rfl, Nat.le_of_ble_eq_true rfl⟩ rfl ⟨Nat.zero_le _, Nat.zero_le _⟩ rfl (Nat.le_of_ble_eq_true rfl) dX9_areAlike_2 (fun H locs hw => ?_)
  refine r_aload0 C hl 0 rfl dX9_areAlike_5 ?_
  refine lv_iconst (v := 0) C.1 C.2.1 dX9_areAlike_6 (by decide) ?_
  obtain ⟨u2, e2, hf⟩ := bx hf
  refine r_callVi (ws' := (dO G ad u1 dw ++ [])) (As := [.int 0]) (rest := []) C hw hl.1 kX9_runAt ml_X9_242 (c_X9_runAt l G ad _ u1 dw 0 u2 e2) (CutX.take dO_f CutX.none) _ (gx_h dO_o) rfl ⟨rfl, rfl⟩ ⟨Nat.le_of_ble_eq_true rfl, Nat.le_of_ble_eq_true rfl⟩ rfl ⟨Nat.zero_le _, Nat.zero_le _⟩ rfl (Nat.le_of_ble_eq_true rfl) dX9_areAlike_7 (fun H locs hw => ?_)
  refine lv_bipush (v := 16) C.1 C.2.1 dX9_areAlike_10 (by decide) ?_
  refine lv_icmp_ne (tgt := 19) C.1 C.2.1 dX9_areAlike_12 (by decide) (fun hc => ?_) (fun hc => ?_)
  · replace hf := ifn hf hc
    refine lv_iconst (v := 0) C.1 C.2.1 dX9_areAlike_19 (by decide) ?_
    exact fin_z C hw (by decide) (Option.some.inj hf) (fun o => o.1) (fun o => (dO G ad o.2 dw ++ [])) rfl rfl dX9_areAlike_20
  · replace hf := ifp hf hc
    refine lv_iconst (v := 1) C.1 C.2.1 dX9_areAlike_15 (by decide) ?_
    refine lv_goto (tgt := 20) C.1 C.2.1 dX9_areAlike_16 (by decide) ?_
    exact fin_z C hw (by decide) (Option.some.inj hf) (fun o => o.1) (fun o => (dO G ad o.2 dw ++ [])) rfl rfl dX9_areAlike_20
set_option maxHeartbeats 4000000 in
set_option maxRecDepth 100000 in
theorem c_X9_dataAt (l : Launch) (G : GG)  (sz : Nat)  (x0 : Int32) (out : Int32) (hf : f_X9_dataAt x0 = some out) : Met l yX9_dataAt (.code yX9_dataAt cX9_dataAt 1 (some .int) :: BT) ({ frames := 0, cells := 0, slots := 0, locals := 0 }) (va_Pc [.int x0] (PreW G sz [])) (Ans G out (va_A [] sz) []) 0 0 (va_A [] sz) := by
  refine Met.into (by decide) (Nat.le_of_ble_eq_true rfl) ?_
  intro p e s m below meth c C hsz ls hl hw
  have hl : lv_has ls 1 [(0, .int x0)] := hl
  clear hsz
  generalize va_A [] sz = A at hw ⊢
  unfold f_X9_dataAt at hf
  refine lv_iconst (v := 5) C.1 C.2.1 dX9_dataAt_0 (by decide) ?_
  refine lv_bipush (v := 16) C.1 C.2.1 dX9_dataAt_1 (by decide) ?_
  refine r_iload0 C hl 0 rfl dX9_dataAt_3 ?_
  refine lv_imul C.1 C.2.1 dX9_dataAt_4 ?_
  refine lv_iadd C.1 C.2.1 dX9_dataAt_5 ?_
  exact fin_i C hw (Option.some.inj hf) (fun o => o) (fun o => []) rfl rfl dX9_dataAt_6
set_option maxHeartbeats 4000000 in
set_option maxRecDepth 100000 in
theorem c_X9_cell (l : Launch) (G : GG) (ad : Nat → Nat) (sz : Nat) (d_ad : Pic) (dw : Int64) (x1 x2 : Int32) (out : Int32 × Pic) (hf : f_X9_cell d_ad x1 x2 = some out) : Met l yX9_cell (.code yX9_cell cX9_cell 3 (some .int) :: BT) ({ frames := 1, cells := 0, slots := 0, locals := 22 }) (va_Pc [.ref (ad 99), .int x1, .int x2] (PreW G sz (dO G ad d_ad dw ++ []))) (Ans G out.1 (va_A (dO G ad d_ad dw ++ []) sz) (dO G ad out.2 dw ++ [])) 0 0 (va_A (dO G ad d_ad dw ++ []) sz) := by
  refine Met.into (by decide) (Nat.le_of_ble_eq_true rfl) ?_
  intro p e s m below meth c C hsz ls hl hw
  have hl : lv_has ls 3 [(0, .ref (ad 99)), (1, .int x1), (2, .int x2)] := hl
  clear hsz
  generalize va_A (dO G ad d_ad dw ++ []) sz = A at hw ⊢
  have hB_23 : ∀ (d_ad : Pic), b_X9_cell_23 x1 x2  d_ad = some out → ∀ (H : Heap) (locs : List Loc), Wd G A s H locs (dO G ad d_ad dw ++ []) → ∀ ls : Array Slot, lv_has ls 3 [(0, .ref (ad 99))] → W p l e ({ frames := 1, cells := 0, slots := 0, locals := 22 }) s m [.ref (ad 99), .int x1, .int x2].toArray below meth c H locs 0 0 (MQ below (Ans G out.1 A (dO G ad out.2 dw ++ [])) [.ref (ad 99), .int x1, .int x2].toArray s 0 0 A) (F0 m 23 ls []) := by
    intro d_ad hf H locs hw ls hl
    unfold b_X9_cell_23 at hf
    refine r_aload0 C hl 0 rfl dX9_cell_23 ?_
    refine lv_iconst (v := 1) C.1 C.2.1 dX9_cell_24 (by decide) ?_
    obtain ⟨u3, e3, hf⟩ := bx hf
    refine r_callVi (ws' := (dO G ad u3.2 dw ++ [])) (As := [.int 1]) (rest := []) C hw hl.1 kX9_refused ml_X9_210 (c_X9_refused l G ad _ d_ad dw 1 u3 e3) (CutX.take dO_f CutX.none) _ (gx_h dO_o) rfl ⟨rfl, rfl⟩ ⟨Nat.le_of_ble_eq_true rfl, Nat.le_of_ble_eq_true rfl⟩ rfl ⟨Nat.zero_le _, Nat.zero_le _⟩ rfl (Nat.le_of_ble_eq_true rfl) dX9_cell_25 (fun H locs hw => ?_)
    exact fin_i C hw (Option.some.inj hf) (fun o => o.1) (fun o => (dO G ad o.2 dw ++ [])) rfl rfl dX9_cell_28
  unfold f_X9_cell at hf
  refine r_aload0 C hl 0 rfl dX9_cell_0 ?_
  refine lv_iconst (v := 0) C.1 C.2.1 dX9_cell_1 (by decide) ?_
  obtain ⟨d_ad1, e1, hf⟩ := bx hf
  refine r_put C hw _ (gx_h dO_o) 0 fp_X9_75 rfl rfl (Nat.le_of_ble_eq_true rfl) (dO G ad d_ad1 dw ++ []) (sx_h dO_o (dO_p0 e1)) dX9_cell_2 (fun H locs hw => ?_)
  refine r_aload0 C hl 0 rfl dX9_cell_5 ?_
  refine r_iload0 C hl 1 rfl dX9_cell_6 ?_
  obtain ⟨u2, e2, hf⟩ := bx hf
  refine r_callVi (ws' := (dO G ad d_ad1 dw ++ [])) (As := [.int x1]) (rest := []) C hw hl.1 kX9_isData ml_X9_271 (c_X9_isData l G ad _ d_ad1 dw x1 u2 e2) (CutX.take dO_f CutX.none) _ (gx_h dO_o) rfl ⟨rfl, rfl⟩ ⟨Nat.le_of_ble_eq_true rfl, Nat.le_of_ble_eq_true rfl⟩ rfl ⟨Nat.zero_le _, Nat.zero_le _⟩ rfl (Nat.le_of_ble_eq_true rfl) dX9_cell_7 (fun H locs hw => ?_)
  refine lv_if_eq (tgt := 23) C.1 C.2.1 dX9_cell_10 (by decide) (fun hc => ?_) (fun hc => ?_)
  · replace hf := ifp hf hc
    exact hB_23  d_ad1 hf _ _ hw _ (lv_sub hl [0] rfl)
  · replace hf := ifn hf hc
    refine r_iload0 C hl 2 rfl dX9_cell_13 ?_
    refine lv_iconst (v := 0) C.1 C.2.1 dX9_cell_14 (by decide) ?_
    refine lv_bipush (v := 15) C.1 C.2.1 dX9_cell_15 (by decide) ?_
    obtain ⟨u4, e4, hf⟩ := bx hf
    refine r_callSi (ws' := (dO G ad d_ad1 dw ++ [])) (As := [.int x2, .int 0, .int 15]) (rest := []) C hw hl.1 kX9_in ml_X9_100 (c_X9_in l G _ x2 0 15 u4 e4) CutX.none ⟨rfl, rfl⟩ ⟨Nat.le_of_ble_eq_true rfl, Nat.le_of_ble_eq_true rfl⟩ rfl ⟨Nat.zero_le _, Nat.zero_le _⟩ rfl (Nat.le_of_ble_eq_true rfl) dX9_cell_17 (fun H locs hw => ?_)
    refine lv_if_ne (tgt := 29) C.1 C.2.1 dX9_cell_20 (by decide) (fun hc => ?_) (fun hc => ?_)
    · replace hf := ifn hf hc
      refine r_aload0 C hl 0 rfl dX9_cell_29 ?_
      refine r_aload0 C hl 0 rfl dX9_cell_30 ?_
      refine r_get C hw _ (gx_h dO_o) 20 fl_X9_35 rfl dX9_cell_31 ?_
      refine r_iload0 C hl 1 rfl dX9_cell_34 ?_
      obtain ⟨u5, e5, hf⟩ := bx hf
      refine r_callSi (ws' := (dO G ad d_ad1 dw ++ [])) (As := [.int x1]) (rest := [.ref (ad 20), .ref (ad 99)]) C hw hl.1 kX9_dataAt ml_X9_274 (c_X9_dataAt l G _ x1 u5 e5) CutX.none ⟨rfl, rfl⟩ ⟨Nat.le_of_ble_eq_true rfl, Nat.le_of_ble_eq_true rfl⟩ rfl ⟨Nat.zero_le _, Nat.zero_le _⟩ rfl (Nat.le_of_ble_eq_true rfl) dX9_cell_35 (fun H locs hw => ?_)
      refine r_iload0 C hl 2 rfl dX9_cell_38 ?_
      refine lv_iadd C.1 C.2.1 dX9_cell_39 ?_
      obtain ⟨v6_, e6, hf⟩ := bx hf
      refine r_iald C hw _ (gx_h dO_g20) e6 dX9_cell_40 ?_
      obtain ⟨u7, e7, hf⟩ := bx hf
      refine r_callVi (ws' := (dO G ad u7.2 dw ++ [])) (As := [.int v6_]) (rest := []) C hw hl.1 kX9_good ml_X9_222 (c_X9_good l G ad _ d_ad1 dw v6_ u7 e7) (CutX.take dO_f CutX.none) _ (gx_h dO_o) rfl ⟨rfl, rfl⟩ ⟨Nat.le_of_ble_eq_true rfl, Nat.le_of_ble_eq_true rfl⟩ rfl ⟨Nat.zero_le _, Nat.zero_le _⟩ rfl (Nat.le_of_ble_eq_true rfl) dX9_cell_41 (fun H locs hw => ?_)
      exact fin_i C hw (Option.some.inj hf) (fun o => o.1) (fun o => (dO G ad o.2 dw ++ [])) rfl rfl dX9_cell_44
    · replace hf := ifp hf hc
      exact hB_23  d_ad1 hf _ _ hw _ (lv_sub hl [0] rfl)
set_option maxHeartbeats 4000000 in
set_option maxRecDepth 100000 in
theorem c_X9_squeezed (l : Launch) (G : GG) (ad : Nat → Nat) (sz : Nat) (d_ad : Pic) (dw : Int64) (x1 : Int32) (out : Int32 × Pic) (hf : f_X9_squeezed d_ad x1 = some out) : Met l yX9_squeezed (.code yX9_squeezed cX9_squeezed 2 (some .int) :: BT) ({ frames := 3, cells := 0, slots := 0, locals := 70 }) (va_Pc [.ref (ad 99), .int x1] (PreW G sz (dO G ad d_ad dw ++ []))) (Ans G out.1 (va_A (dO G ad d_ad dw ++ []) sz) (dO G ad out.2 dw ++ [])) 0 0 (va_A (dO G ad d_ad dw ++ []) sz) := by
  refine Met.into (by decide) (Nat.le_of_ble_eq_true rfl) ?_
  intro p e s m below meth c C hsz ls hl hw
  have hl : lv_has ls 2 [(0, .ref (ad 99)), (1, .int x1)] := hl
  clear hsz
  generalize va_A (dO G ad d_ad dw ++ []) sz = A at hw ⊢
  unfold f_X9_squeezed at hf
  refine r_aload0 C hl 0 rfl dX9_squeezed_0 ?_
  refine lv_iconst (v := 0) C.1 C.2.1 dX9_squeezed_1 (by decide) ?_
  obtain ⟨d_ad1, e1, hf⟩ := bx hf
  refine r_put C hw _ (gx_h dO_o) 0 fp_X9_75 rfl rfl (Nat.le_of_ble_eq_true rfl) (dO G ad d_ad1 dw ++ []) (sx_h dO_o (dO_p0 e1)) dX9_squeezed_2 (fun H locs hw => ?_)
  refine r_aload0 C hl 0 rfl dX9_squeezed_5 ?_
  refine r_iload0 C hl 1 rfl dX9_squeezed_6 ?_
  obtain ⟨u2, e2, hf⟩ := bx hf
  refine r_callVi (ws' := (dO G ad d_ad1 dw ++ [])) (As := [.int x1]) (rest := []) C hw hl.1 kX9_isData ml_X9_271 (c_X9_isData l G ad _ d_ad1 dw x1 u2 e2) (CutX.take dO_f CutX.none) _ (gx_h dO_o) rfl ⟨rfl, rfl⟩ ⟨Nat.le_of_ble_eq_true rfl, Nat.le_of_ble_eq_true rfl⟩ rfl ⟨Nat.zero_le _, Nat.zero_le _⟩ rfl (Nat.le_of_ble_eq_true rfl) dX9_squeezed_7 (fun H locs hw => ?_)
  refine lv_if_eq (tgt := 28) C.1 C.2.1 dX9_squeezed_10 (by decide) (fun hc => ?_) (fun hc => ?_)
  · replace hf := ifp hf hc
    refine r_aload0 C hl 0 rfl dX9_squeezed_28 ?_
    refine lv_iconst (v := 1) C.1 C.2.1 dX9_squeezed_29 (by decide) ?_
    obtain ⟨u3, e3, hf⟩ := bx hf
    refine r_callVi (ws' := (dO G ad u3.2 dw ++ [])) (As := [.int 1]) (rest := []) C hw hl.1 kX9_refused ml_X9_210 (c_X9_refused l G ad _ d_ad1 dw 1 u3 e3) (CutX.take dO_f CutX.none) _ (gx_h dO_o) rfl ⟨rfl, rfl⟩ ⟨Nat.le_of_ble_eq_true rfl, Nat.le_of_ble_eq_true rfl⟩ rfl ⟨Nat.zero_le _, Nat.zero_le _⟩ rfl (Nat.le_of_ble_eq_true rfl) dX9_squeezed_30 (fun H locs hw => ?_)
    exact fin_i C hw (Option.some.inj hf) (fun o => o.1) (fun o => (dO G ad o.2 dw ++ [])) rfl rfl dX9_squeezed_33
  · replace hf := ifn hf hc
    refine r_aload0 C hl 0 rfl dX9_squeezed_13 ?_
    refine r_aload0 C hl 0 rfl dX9_squeezed_14 ?_
    refine r_iload0 C hl 1 rfl dX9_squeezed_15 ?_
    obtain ⟨u4, e4, hf⟩ := bx hf
    refine r_callSi (ws' := (dO G ad d_ad1 dw ++ [])) (As := [.int x1]) (rest := [.ref (ad 99), .ref (ad 99)]) C hw hl.1 kX9_dataAt ml_X9_274 (c_X9_dataAt l G _ x1 u4 e4) CutX.none ⟨rfl, rfl⟩ ⟨Nat.le_of_ble_eq_true rfl, Nat.le_of_ble_eq_true rfl⟩ rfl ⟨Nat.zero_le _, Nat.zero_le _⟩ rfl (Nat.le_of_ble_eq_true rfl) dX9_squeezed_16 (fun H locs hw => ?_)
    obtain ⟨u5, e5, hf⟩ := bx hf
    refine r_callVi (ws' := (dO G ad u5.2 dw ++ [])) (As := [.int u4]) (rest := [.ref (ad 99)]) C hw hl.1 kX9_cutAll ml_X9_277 (c_X9_cutAll l G ad _ d_ad1 dw u4 u5 e5) (CutX.take dO_f CutX.none) _ (gx_h dO_o) rfl ⟨rfl, rfl⟩ ⟨Nat.le_of_ble_eq_true rfl, Nat.le_of_ble_eq_true rfl⟩ rfl ⟨Nat.zero_le _, Nat.zero_le _⟩ rfl (Nat.le_of_ble_eq_true rfl) dX9_squeezed_19 (fun H locs hw => ?_)
    obtain ⟨u6, e6, hf⟩ := bx hf
    refine r_callVi (ws' := (dO G ad u6.2 dw ++ [])) (As := [.int u5.1]) (rest := []) C hw hl.1 kX9_good ml_X9_222 (c_X9_good l G ad _ u5.2 dw u5.1 u6 e6) (CutX.take dO_f CutX.none) _ (gx_h dO_o) rfl ⟨rfl, rfl⟩ ⟨Nat.le_of_ble_eq_true rfl, Nat.le_of_ble_eq_true rfl⟩ rfl ⟨Nat.zero_le _, Nat.zero_le _⟩ rfl (Nat.le_of_ble_eq_true rfl) dX9_squeezed_22 (fun H locs hw => ?_)
    refine lv_goto (tgt := 33) C.1 C.2.1 dX9_squeezed_25 (by decide) ?_
    exact fin_i C hw (Option.some.inj hf) (fun o => o.1) (fun o => (dO G ad o.2 dw ++ [])) rfl rfl dX9_squeezed_33
set_option maxHeartbeats 4000000 in
set_option maxRecDepth 100000 in
theorem c_X9_pieces (l : Launch) (G : GG) (ad : Nat → Nat) (sz : Nat) (d_ad : Pic) (dw : Int64) (x1 : Int32) (out : Int32 × Pic) (hf : f_X9_pieces d_ad x1 = some out) : Met l yX9_pieces (.code yX9_pieces cX9_pieces 2 (some .int) :: BT) ({ frames := 3, cells := 0, slots := 0, locals := 70 }) (va_Pc [.ref (ad 99), .int x1] (PreW G sz (dO G ad d_ad dw ++ []))) (Ans G out.1 (va_A (dO G ad d_ad dw ++ []) sz) (dO G ad out.2 dw ++ [])) 0 0 (va_A (dO G ad d_ad dw ++ []) sz) := by
  refine Met.into (by decide) (Nat.le_of_ble_eq_true rfl) ?_
  intro p e s m below meth c C hsz ls hl hw
  have hl : lv_has ls 2 [(0, .ref (ad 99)), (1, .int x1)] := hl
  clear hsz
  generalize va_A (dO G ad d_ad dw ++ []) sz = A at hw ⊢
  unfold f_X9_pieces at hf
  refine r_aload0 C hl 0 rfl dX9_pieces_0 ?_
  refine lv_iconst (v := 0) C.1 C.2.1 dX9_pieces_1 (by decide) ?_
  obtain ⟨d_ad1, e1, hf⟩ := bx hf
  refine r_put C hw _ (gx_h dO_o) 0 fp_X9_75 rfl rfl (Nat.le_of_ble_eq_true rfl) (dO G ad d_ad1 dw ++ []) (sx_h dO_o (dO_p0 e1)) dX9_pieces_2 (fun H locs hw => ?_)
  refine r_aload0 C hl 0 rfl dX9_pieces_5 ?_
  refine r_iload0 C hl 1 rfl dX9_pieces_6 ?_
  obtain ⟨u2, e2, hf⟩ := bx hf
  refine r_callVi (ws' := (dO G ad d_ad1 dw ++ [])) (As := [.int x1]) (rest := []) C hw hl.1 kX9_isData ml_X9_271 (c_X9_isData l G ad _ d_ad1 dw x1 u2 e2) (CutX.take dO_f CutX.none) _ (gx_h dO_o) rfl ⟨rfl, rfl⟩ ⟨Nat.le_of_ble_eq_true rfl, Nat.le_of_ble_eq_true rfl⟩ rfl ⟨Nat.zero_le _, Nat.zero_le _⟩ rfl (Nat.le_of_ble_eq_true rfl) dX9_pieces_7 (fun H locs hw => ?_)
  refine lv_if_ne (tgt := 19) C.1 C.2.1 dX9_pieces_10 (by decide) (fun hc => ?_) (fun hc => ?_)
  · replace hf := ifn hf hc
    refine r_aload0 C hl 0 rfl dX9_pieces_19 ?_
    refine r_iload0 C hl 1 rfl dX9_pieces_20 ?_
    obtain ⟨u3, e3, hf⟩ := bx hf
    refine r_callSi (ws' := (dO G ad d_ad1 dw ++ [])) (As := [.int x1]) (rest := [.ref (ad 99)]) C hw hl.1 kX9_dataAt ml_X9_274 (c_X9_dataAt l G _ x1 u3 e3) CutX.none ⟨rfl, rfl⟩ ⟨Nat.le_of_ble_eq_true rfl, Nat.le_of_ble_eq_true rfl⟩ rfl ⟨Nat.zero_le _, Nat.zero_le _⟩ rfl (Nat.le_of_ble_eq_true rfl) dX9_pieces_21 (fun H locs hw => ?_)
    obtain ⟨u4, e4, hf⟩ := bx hf
    refine r_callVi (ws' := (dO G ad u4.2 dw ++ [])) (As := [.int u3]) (rest := []) C hw hl.1 kX9_cutAll ml_X9_277 (c_X9_cutAll l G ad _ d_ad1 dw u3 u4 e4) (CutX.take dO_f CutX.none) _ (gx_h dO_o) rfl ⟨rfl, rfl⟩ ⟨Nat.le_of_ble_eq_true rfl, Nat.le_of_ble_eq_true rfl⟩ rfl ⟨Nat.zero_le _, Nat.zero_le _⟩ rfl (Nat.le_of_ble_eq_true rfl) dX9_pieces_24 (fun H locs hw => ?_)
    refine lv_pop C.1 C.2.1 dX9_pieces_27 rfl ?_
    refine r_aload0 C hl 0 rfl dX9_pieces_28 ?_
    refine r_aload0 C hl 0 rfl dX9_pieces_29 ?_
    refine r_get C hw _ (gx_h dO_o) 40 fl_X9_252 rfl dX9_pieces_30 ?_
    obtain ⟨u5, e5, hf⟩ := bx hf
    refine r_callVi (ws' := (dO G ad u5.2 dw ++ [])) (As := [.int (gS u4.2 40)]) (rest := []) C hw hl.1 kX9_good ml_X9_222 (c_X9_good l G ad _ u4.2 dw (gS u4.2 40) u5 e5) (CutX.take dO_f CutX.none) _ (gx_h dO_o) rfl ⟨rfl, rfl⟩ ⟨Nat.le_of_ble_eq_true rfl, Nat.le_of_ble_eq_true rfl⟩ rfl ⟨Nat.zero_le _, Nat.zero_le _⟩ rfl (Nat.le_of_ble_eq_true rfl) dX9_pieces_33 (fun H locs hw => ?_)
    exact fin_i C hw (Option.some.inj hf) (fun o => o.1) (fun o => (dO G ad o.2 dw ++ [])) rfl rfl dX9_pieces_36
  · replace hf := ifp hf hc
    refine r_aload0 C hl 0 rfl dX9_pieces_13 ?_
    refine lv_iconst (v := 1) C.1 C.2.1 dX9_pieces_14 (by decide) ?_
    obtain ⟨u6, e6, hf⟩ := bx hf
    refine r_callVi (ws' := (dO G ad u6.2 dw ++ [])) (As := [.int 1]) (rest := []) C hw hl.1 kX9_refused ml_X9_210 (c_X9_refused l G ad _ d_ad1 dw 1 u6 e6) (CutX.take dO_f CutX.none) _ (gx_h dO_o) rfl ⟨rfl, rfl⟩ ⟨Nat.le_of_ble_eq_true rfl, Nat.le_of_ble_eq_true rfl⟩ rfl ⟨Nat.zero_le _, Nat.zero_le _⟩ rfl (Nat.le_of_ble_eq_true rfl) dX9_pieces_15 (fun H locs hw => ?_)
    exact fin_i C hw (Option.some.inj hf) (fun o => o.1) (fun o => (dO G ad o.2 dw ++ [])) rfl rfl dX9_pieces_18
set_option maxHeartbeats 4000000 in
set_option maxRecDepth 100000 in
theorem c_X9_piece (l : Launch) (G : GG) (ad : Nat → Nat) (sz : Nat) (d_ad : Pic) (dw : Int64) (x1 x2 x3 : Int32) (out : Int32 × Pic) (hf : f_X9_piece d_ad x1 x2 x3 = some out) : Met l yX9_piece (.code yX9_piece cX9_piece 4 (some .int) :: BT) ({ frames := 3, cells := 0, slots := 0, locals := 70 }) (va_Pc [.ref (ad 99), .int x1, .int x2, .int x3] (PreW G sz (dO G ad d_ad dw ++ []))) (Ans G out.1 (va_A (dO G ad d_ad dw ++ []) sz) (dO G ad out.2 dw ++ [])) 0 0 (va_A (dO G ad d_ad dw ++ []) sz) := by
  refine Met.into (by decide) (Nat.le_of_ble_eq_true rfl) ?_
  intro p e s m below meth c C hsz ls hl hw
  have hl : lv_has ls 4 [(0, .ref (ad 99)), (1, .int x1), (2, .int x2), (3, .int x3)] := hl
  clear hsz
  generalize va_A (dO G ad d_ad dw ++ []) sz = A at hw ⊢
  have hB_26 : ∀ (d_ad : Pic), b_X9_piece_26 x1 x2 x3  d_ad = some out → ∀ (H : Heap) (locs : List Loc), Wd G A s H locs (dO G ad d_ad dw ++ []) → ∀ ls : Array Slot, lv_has ls 4 [(0, .ref (ad 99))] → W p l e ({ frames := 3, cells := 0, slots := 0, locals := 70 }) s m [.ref (ad 99), .int x1, .int x2, .int x3].toArray below meth c H locs 0 0 (MQ below (Ans G out.1 A (dO G ad out.2 dw ++ [])) [.ref (ad 99), .int x1, .int x2, .int x3].toArray s 0 0 A) (F0 m 26 ls []) := by
    intro d_ad hf H locs hw ls hl
    unfold b_X9_piece_26 at hf
    refine r_aload0 C hl 0 rfl dX9_piece_26 ?_
    refine lv_iconst (v := 1) C.1 C.2.1 dX9_piece_27 (by decide) ?_
    obtain ⟨u3, e3, hf⟩ := bx hf
    refine r_callVi (ws' := (dO G ad u3.2 dw ++ [])) (As := [.int 1]) (rest := []) C hw hl.1 kX9_refused ml_X9_210 (c_X9_refused l G ad _ d_ad dw 1 u3 e3) (CutX.take dO_f CutX.none) _ (gx_h dO_o) rfl ⟨rfl, rfl⟩ ⟨Nat.le_of_ble_eq_true rfl, Nat.le_of_ble_eq_true rfl⟩ rfl ⟨Nat.zero_le _, Nat.zero_le _⟩ rfl (Nat.le_of_ble_eq_true rfl) dX9_piece_28 (fun H locs hw => ?_)
    exact fin_i C hw (Option.some.inj hf) (fun o => o.1) (fun o => (dO G ad o.2 dw ++ [])) rfl rfl dX9_piece_31
  unfold f_X9_piece at hf
  refine r_aload0 C hl 0 rfl dX9_piece_0 ?_
  refine lv_iconst (v := 0) C.1 C.2.1 dX9_piece_1 (by decide) ?_
  obtain ⟨d_ad1, e1, hf⟩ := bx hf
  refine r_put C hw _ (gx_h dO_o) 0 fp_X9_75 rfl rfl (Nat.le_of_ble_eq_true rfl) (dO G ad d_ad1 dw ++ []) (sx_h dO_o (dO_p0 e1)) dX9_piece_2 (fun H locs hw => ?_)
  refine r_aload0 C hl 0 rfl dX9_piece_5 ?_
  refine r_iload0 C hl 1 rfl dX9_piece_6 ?_
  obtain ⟨u2, e2, hf⟩ := bx hf
  refine r_callVi (ws' := (dO G ad d_ad1 dw ++ [])) (As := [.int x1]) (rest := []) C hw hl.1 kX9_isData ml_X9_271 (c_X9_isData l G ad _ d_ad1 dw x1 u2 e2) (CutX.take dO_f CutX.none) _ (gx_h dO_o) rfl ⟨rfl, rfl⟩ ⟨Nat.le_of_ble_eq_true rfl, Nat.le_of_ble_eq_true rfl⟩ rfl ⟨Nat.zero_le _, Nat.zero_le _⟩ rfl (Nat.le_of_ble_eq_true rfl) dX9_piece_7 (fun H locs hw => ?_)
  refine lv_if_eq (tgt := 26) C.1 C.2.1 dX9_piece_10 (by decide) (fun hc => ?_) (fun hc => ?_)
  · replace hf := ifp hf hc
    exact hB_26  d_ad1 hf _ _ hw _ (lv_sub hl [0] rfl)
  · replace hf := ifn hf hc
    refine r_iload0 C hl 2 rfl dX9_piece_13 ?_
    refine lv_if_lt (tgt := 26) C.1 C.2.1 dX9_piece_14 (by decide) (fun hc => ?_) (fun hc => ?_)
    · replace hf := ifp hf hc
      exact hB_26  d_ad1 hf _ _ hw _ (lv_sub hl [0] rfl)
    · replace hf := ifn hf hc
      refine r_iload0 C hl 3 rfl dX9_piece_17 ?_
      refine lv_iconst (v := 0) C.1 C.2.1 dX9_piece_18 (by decide) ?_
      refine lv_iconst (v := 3) C.1 C.2.1 dX9_piece_19 (by decide) ?_
      obtain ⟨u4, e4, hf⟩ := bx hf
      refine r_callSi (ws' := (dO G ad d_ad1 dw ++ [])) (As := [.int x3, .int 0, .int 3]) (rest := []) C hw hl.1 kX9_in ml_X9_100 (c_X9_in l G _ x3 0 3 u4 e4) CutX.none ⟨rfl, rfl⟩ ⟨Nat.le_of_ble_eq_true rfl, Nat.le_of_ble_eq_true rfl⟩ rfl ⟨Nat.zero_le _, Nat.zero_le _⟩ rfl (Nat.le_of_ble_eq_true rfl) dX9_piece_20 (fun H locs hw => ?_)
      refine lv_if_ne (tgt := 32) C.1 C.2.1 dX9_piece_23 (by decide) (fun hc => ?_) (fun hc => ?_)
      · replace hf := ifn hf hc
        refine r_aload0 C hl 0 rfl dX9_piece_32 ?_
        refine r_iload0 C hl 1 rfl dX9_piece_33 ?_
        obtain ⟨u5, e5, hf⟩ := bx hf
        refine r_callSi (ws' := (dO G ad d_ad1 dw ++ [])) (As := [.int x1]) (rest := [.ref (ad 99)]) C hw hl.1 kX9_dataAt ml_X9_274 (c_X9_dataAt l G _ x1 u5 e5) CutX.none ⟨rfl, rfl⟩ ⟨Nat.le_of_ble_eq_true rfl, Nat.le_of_ble_eq_true rfl⟩ rfl ⟨Nat.zero_le _, Nat.zero_le _⟩ rfl (Nat.le_of_ble_eq_true rfl) dX9_piece_34 (fun H locs hw => ?_)
        obtain ⟨u6, e6, hf⟩ := bx hf
        refine r_callVi (ws' := (dO G ad u6.2 dw ++ [])) (As := [.int u5]) (rest := []) C hw hl.1 kX9_cutAll ml_X9_277 (c_X9_cutAll l G ad _ d_ad1 dw u5 u6 e6) (CutX.take dO_f CutX.none) _ (gx_h dO_o) rfl ⟨rfl, rfl⟩ ⟨Nat.le_of_ble_eq_true rfl, Nat.le_of_ble_eq_true rfl⟩ rfl ⟨Nat.zero_le _, Nat.zero_le _⟩ rfl (Nat.le_of_ble_eq_true rfl) dX9_piece_37 (fun H locs hw => ?_)
        refine lv_pop C.1 C.2.1 dX9_piece_40 rfl ?_
        refine r_iload0 C hl 2 rfl dX9_piece_41 ?_
        refine r_aload0 C hl 0 rfl dX9_piece_42 ?_
        refine r_get C hw _ (gx_h dO_o) 40 fl_X9_252 rfl dX9_piece_43 ?_
        refine lv_icmp_lt (tgt := 55) C.1 C.2.1 dX9_piece_46 (by decide) (fun hc => ?_) (fun hc => ?_)
        · replace hf := ifp hf hc
          refine r_iload0 C hl 3 rfl dX9_piece_55 ?_
          rcases Decidable.em (x3 = 0) with hc | h0_
          · replace hf := ifp hf hc
            refine lv_tableIn (tgt := 84) C.1 C.2.1 dX9_piece_56 (by rw [hc]; decide) (by rw [hc]; decide) (by rw [hc]; rfl) (by decide) ?_
            refine r_aload0 C hl 0 rfl dX9_piece_84 ?_
            refine r_aload0 C hl 0 rfl dX9_piece_85 ?_
            refine r_get C hw _ (gx_h dO_o) 36 fl_X9_57 rfl dX9_piece_86 ?_
            refine r_iload0 C hl 2 rfl dX9_piece_89 ?_
            obtain ⟨v13_, e13, hf⟩ := bx hf
            refine r_iald C hw _ (gx_h dO_g36) e13 dX9_piece_90 ?_
            obtain ⟨u14, e14, hf⟩ := bx hf
            refine r_callVi (ws' := (dO G ad u14.2 dw ++ [])) (As := [.int v13_]) (rest := []) C hw hl.1 kX9_good ml_X9_222 (c_X9_good l G ad _ u6.2 dw v13_ u14 e14) (CutX.take dO_f CutX.none) _ (gx_h dO_o) rfl ⟨rfl, rfl⟩ ⟨Nat.le_of_ble_eq_true rfl, Nat.le_of_ble_eq_true rfl⟩ rfl ⟨Nat.zero_le _, Nat.zero_le _⟩ rfl (Nat.le_of_ble_eq_true rfl) dX9_piece_91 (fun H locs hw => ?_)
            exact fin_i C hw (Option.some.inj hf) (fun o => o.1) (fun o => (dO G ad o.2 dw ++ [])) rfl rfl dX9_piece_94
          replace hf := ifn hf h0_
          rcases Decidable.em (x3 = 1) with hc | h1_
          · replace hf := ifp hf hc
            refine lv_tableIn (tgt := 95) C.1 C.2.1 dX9_piece_56 (by rw [hc]; decide) (by rw [hc]; decide) (by rw [hc]; rfl) (by decide) ?_
            refine r_aload0 C hl 0 rfl dX9_piece_95 ?_
            refine r_aload0 C hl 0 rfl dX9_piece_96 ?_
            refine r_get C hw _ (gx_h dO_o) 37 fl_X9_60 rfl dX9_piece_97 ?_
            refine r_iload0 C hl 2 rfl dX9_piece_100 ?_
            obtain ⟨v11_, e11, hf⟩ := bx hf
            refine r_iald C hw _ (gx_h dO_g37) e11 dX9_piece_101 ?_
            obtain ⟨u12, e12, hf⟩ := bx hf
            refine r_callVi (ws' := (dO G ad u12.2 dw ++ [])) (As := [.int v11_]) (rest := []) C hw hl.1 kX9_good ml_X9_222 (c_X9_good l G ad _ u6.2 dw v11_ u12 e12) (CutX.take dO_f CutX.none) _ (gx_h dO_o) rfl ⟨rfl, rfl⟩ ⟨Nat.le_of_ble_eq_true rfl, Nat.le_of_ble_eq_true rfl⟩ rfl ⟨Nat.zero_le _, Nat.zero_le _⟩ rfl (Nat.le_of_ble_eq_true rfl) dX9_piece_102 (fun H locs hw => ?_)
            exact fin_i C hw (Option.some.inj hf) (fun o => o.1) (fun o => (dO G ad o.2 dw ++ [])) rfl rfl dX9_piece_105
          replace hf := ifn hf h1_
          rcases Decidable.em (x3 = 2) with hc | h2_
          · replace hf := ifp hf hc
            refine lv_tableIn (tgt := 106) C.1 C.2.1 dX9_piece_56 (by rw [hc]; decide) (by rw [hc]; decide) (by rw [hc]; rfl) (by decide) ?_
            refine r_aload0 C hl 0 rfl dX9_piece_106 ?_
            refine r_aload0 C hl 0 rfl dX9_piece_107 ?_
            refine r_get C hw _ (gx_h dO_o) 38 fl_X9_63 rfl dX9_piece_108 ?_
            refine r_iload0 C hl 2 rfl dX9_piece_111 ?_
            obtain ⟨v9_, e9, hf⟩ := bx hf
            refine r_iald C hw _ (gx_h dO_g38) e9 dX9_piece_112 ?_
            obtain ⟨u10, e10, hf⟩ := bx hf
            refine r_callVi (ws' := (dO G ad u10.2 dw ++ [])) (As := [.int v9_]) (rest := []) C hw hl.1 kX9_good ml_X9_222 (c_X9_good l G ad _ u6.2 dw v9_ u10 e10) (CutX.take dO_f CutX.none) _ (gx_h dO_o) rfl ⟨rfl, rfl⟩ ⟨Nat.le_of_ble_eq_true rfl, Nat.le_of_ble_eq_true rfl⟩ rfl ⟨Nat.zero_le _, Nat.zero_le _⟩ rfl (Nat.le_of_ble_eq_true rfl) dX9_piece_113 (fun H locs hw => ?_)
            exact fin_i C hw (Option.some.inj hf) (fun o => o.1) (fun o => (dO G ad o.2 dw ++ [])) rfl rfl dX9_piece_116
          replace hf := ifn hf h2_
          refine lv_tableOut (tgt := 117) C.1 C.2.1 dX9_piece_56 (sw_out3 h0_ h1_ h2_) (by decide) ?_
          refine r_aload0 C hl 0 rfl dX9_piece_117 ?_
          refine r_aload0 C hl 0 rfl dX9_piece_118 ?_
          refine r_get C hw _ (gx_h dO_o) 39 fl_X9_66 rfl dX9_piece_119 ?_
          refine r_iload0 C hl 2 rfl dX9_piece_122 ?_
          obtain ⟨v7_, e7, hf⟩ := bx hf
          refine r_iald C hw _ (gx_h dO_g39) e7 dX9_piece_123 ?_
          obtain ⟨u8, e8, hf⟩ := bx hf
          refine r_callVi (ws' := (dO G ad u8.2 dw ++ [])) (As := [.int v7_]) (rest := []) C hw hl.1 kX9_good ml_X9_222 (c_X9_good l G ad _ u6.2 dw v7_ u8 e8) (CutX.take dO_f CutX.none) _ (gx_h dO_o) rfl ⟨rfl, rfl⟩ ⟨Nat.le_of_ble_eq_true rfl, Nat.le_of_ble_eq_true rfl⟩ rfl ⟨Nat.zero_le _, Nat.zero_le _⟩ rfl (Nat.le_of_ble_eq_true rfl) dX9_piece_124 (fun H locs hw => ?_)
          exact fin_i C hw (Option.some.inj hf) (fun o => o.1) (fun o => (dO G ad o.2 dw ++ [])) rfl rfl dX9_piece_127
        · replace hf := ifn hf hc
          refine r_aload0 C hl 0 rfl dX9_piece_49 ?_
          refine lv_iconst (v := 1) C.1 C.2.1 dX9_piece_50 (by decide) ?_
          obtain ⟨u15, e15, hf⟩ := bx hf
          refine r_callVi (ws' := (dO G ad u15.2 dw ++ [])) (As := [.int 1]) (rest := []) C hw hl.1 kX9_refused ml_X9_210 (c_X9_refused l G ad _ u6.2 dw 1 u15 e15) (CutX.take dO_f CutX.none) _ (gx_h dO_o) rfl ⟨rfl, rfl⟩ ⟨Nat.le_of_ble_eq_true rfl, Nat.le_of_ble_eq_true rfl⟩ rfl ⟨Nat.zero_le _, Nat.zero_le _⟩ rfl (Nat.le_of_ble_eq_true rfl) dX9_piece_51 (fun H locs hw => ?_)
          exact fin_i C hw (Option.some.inj hf) (fun o => o.1) (fun o => (dO G ad o.2 dw ++ [])) rfl rfl dX9_piece_54
      · replace hf := ifp hf hc
        exact hB_26  d_ad1 hf _ _ hw _ (lv_sub hl [0] rfl)
set_option maxHeartbeats 4000000 in
set_option maxRecDepth 100000 in
theorem c_X9_fewest (l : Launch) (G : GG) (ad : Nat → Nat) (sz : Nat) (d_ad : Pic) (dw : Int64) (x1 : Int32) (out : Int32 × Pic) (hf : f_X9_fewest d_ad x1 = some out) : Met l yX9_fewest (.code yX9_fewest cX9_fewest 2 (some .int) :: BT) ({ frames := 3, cells := 0, slots := 0, locals := 70 }) (va_Pc [.ref (ad 99), .int x1] (PreW G sz (dO G ad d_ad dw ++ []))) (Ans G out.1 (va_A (dO G ad d_ad dw ++ []) sz) (dO G ad out.2 dw ++ [])) 0 0 (va_A (dO G ad d_ad dw ++ []) sz) := by
  refine Met.into (by decide) (Nat.le_of_ble_eq_true rfl) ?_
  intro p e s m below meth c C hsz ls hl hw
  have hl : lv_has ls 2 [(0, .ref (ad 99)), (1, .int x1)] := hl
  clear hsz
  generalize va_A (dO G ad d_ad dw ++ []) sz = A at hw ⊢
  unfold f_X9_fewest at hf
  refine r_aload0 C hl 0 rfl dX9_fewest_0 ?_
  refine lv_iconst (v := 0) C.1 C.2.1 dX9_fewest_1 (by decide) ?_
  obtain ⟨d_ad1, e1, hf⟩ := bx hf
  refine r_put C hw _ (gx_h dO_o) 0 fp_X9_75 rfl rfl (Nat.le_of_ble_eq_true rfl) (dO G ad d_ad1 dw ++ []) (sx_h dO_o (dO_p0 e1)) dX9_fewest_2 (fun H locs hw => ?_)
  refine r_aload0 C hl 0 rfl dX9_fewest_5 ?_
  refine r_iload0 C hl 1 rfl dX9_fewest_6 ?_
  obtain ⟨u2, e2, hf⟩ := bx hf
  refine r_callVi (ws' := (dO G ad d_ad1 dw ++ [])) (As := [.int x1]) (rest := []) C hw hl.1 kX9_isData ml_X9_271 (c_X9_isData l G ad _ d_ad1 dw x1 u2 e2) (CutX.take dO_f CutX.none) _ (gx_h dO_o) rfl ⟨rfl, rfl⟩ ⟨Nat.le_of_ble_eq_true rfl, Nat.le_of_ble_eq_true rfl⟩ rfl ⟨Nat.zero_le _, Nat.zero_le _⟩ rfl (Nat.le_of_ble_eq_true rfl) dX9_fewest_7 (fun H locs hw => ?_)
  refine lv_if_ne (tgt := 19) C.1 C.2.1 dX9_fewest_10 (by decide) (fun hc => ?_) (fun hc => ?_)
  · replace hf := ifn hf hc
    refine r_aload0 C hl 0 rfl dX9_fewest_19 ?_
    refine r_iload0 C hl 1 rfl dX9_fewest_20 ?_
    obtain ⟨u3, e3, hf⟩ := bx hf
    refine r_callSi (ws' := (dO G ad d_ad1 dw ++ [])) (As := [.int x1]) (rest := [.ref (ad 99)]) C hw hl.1 kX9_dataAt ml_X9_274 (c_X9_dataAt l G _ x1 u3 e3) CutX.none ⟨rfl, rfl⟩ ⟨Nat.le_of_ble_eq_true rfl, Nat.le_of_ble_eq_true rfl⟩ rfl ⟨Nat.zero_le _, Nat.zero_le _⟩ rfl (Nat.le_of_ble_eq_true rfl) dX9_fewest_21 (fun H locs hw => ?_)
    obtain ⟨u4, e4, hf⟩ := bx hf
    refine r_callVi (ws' := (dO G ad u4.2 dw ++ [])) (As := [.int u3]) (rest := []) C hw hl.1 kX9_cutAll ml_X9_277 (c_X9_cutAll l G ad _ d_ad1 dw u3 u4 e4) (CutX.take dO_f CutX.none) _ (gx_h dO_o) rfl ⟨rfl, rfl⟩ ⟨Nat.le_of_ble_eq_true rfl, Nat.le_of_ble_eq_true rfl⟩ rfl ⟨Nat.zero_le _, Nat.zero_le _⟩ rfl (Nat.le_of_ble_eq_true rfl) dX9_fewest_24 (fun H locs hw => ?_)
    refine lv_pop C.1 C.2.1 dX9_fewest_27 rfl ?_
    refine r_aload0 C hl 0 rfl dX9_fewest_28 ?_
    refine r_aload0 C hl 0 rfl dX9_fewest_29 ?_
    refine r_get C hw _ (gx_h dO_o) 35 fl_X9_54 rfl dX9_fewest_30 ?_
    refine lv_iconst (v := 0) C.1 C.2.1 dX9_fewest_33 (by decide) ?_
    obtain ⟨v5_, e5, hf⟩ := bx hf
    refine r_iald C hw _ (gx_h dO_g35) e5 dX9_fewest_34 ?_
    obtain ⟨u6, e6, hf⟩ := bx hf
    refine r_callVi (ws' := (dO G ad u6.2 dw ++ [])) (As := [.int v5_]) (rest := []) C hw hl.1 kX9_good ml_X9_222 (c_X9_good l G ad _ u4.2 dw v5_ u6 e6) (CutX.take dO_f CutX.none) _ (gx_h dO_o) rfl ⟨rfl, rfl⟩ ⟨Nat.le_of_ble_eq_true rfl, Nat.le_of_ble_eq_true rfl⟩ rfl ⟨Nat.zero_le _, Nat.zero_le _⟩ rfl (Nat.le_of_ble_eq_true rfl) dX9_fewest_35 (fun H locs hw => ?_)
    exact fin_i C hw (Option.some.inj hf) (fun o => o.1) (fun o => (dO G ad o.2 dw ++ [])) rfl rfl dX9_fewest_38
  · replace hf := ifp hf hc
    refine r_aload0 C hl 0 rfl dX9_fewest_13 ?_
    refine lv_iconst (v := 1) C.1 C.2.1 dX9_fewest_14 (by decide) ?_
    obtain ⟨u7, e7, hf⟩ := bx hf
    refine r_callVi (ws' := (dO G ad u7.2 dw ++ [])) (As := [.int 1]) (rest := []) C hw hl.1 kX9_refused ml_X9_210 (c_X9_refused l G ad _ d_ad1 dw 1 u7 e7) (CutX.take dO_f CutX.none) _ (gx_h dO_o) rfl ⟨rfl, rfl⟩ ⟨Nat.le_of_ble_eq_true rfl, Nat.le_of_ble_eq_true rfl⟩ rfl ⟨Nat.zero_le _, Nat.zero_le _⟩ rfl (Nat.le_of_ble_eq_true rfl) dX9_fewest_15 (fun H locs hw => ?_)
    exact fin_i C hw (Option.some.inj hf) (fun o => o.1) (fun o => (dO G ad o.2 dw ++ [])) rfl rfl dX9_fewest_18
set_option maxHeartbeats 4000000 in
set_option maxRecDepth 100000 in
theorem c_X9_rest (l : Launch) (G : GG) (ad : Nat → Nat) (sz : Nat) (d_ad : Pic) (dw : Int64) (x1 x2 : Int32) (out : Int32 × Pic) (hf : f_X9_rest d_ad x1 x2 = some out) : Met l yX9_rest (.code yX9_rest cX9_rest 3 (some .int) :: BT) ({ frames := 3, cells := 0, slots := 0, locals := 70 }) (va_Pc [.ref (ad 99), .int x1, .int x2] (PreW G sz (dO G ad d_ad dw ++ []))) (Ans G out.1 (va_A (dO G ad d_ad dw ++ []) sz) (dO G ad out.2 dw ++ [])) 0 0 (va_A (dO G ad d_ad dw ++ []) sz) := by
  refine Met.into (by decide) (Nat.le_of_ble_eq_true rfl) ?_
  intro p e s m below meth c C hsz ls hl hw
  have hl : lv_has ls 3 [(0, .ref (ad 99)), (1, .int x1), (2, .int x2)] := hl
  clear hsz
  generalize va_A (dO G ad d_ad dw ++ []) sz = A at hw ⊢
  have hB_23 : ∀ (d_ad : Pic), b_X9_rest_23 x1 x2  d_ad = some out → ∀ (H : Heap) (locs : List Loc), Wd G A s H locs (dO G ad d_ad dw ++ []) → ∀ ls : Array Slot, lv_has ls 3 [(0, .ref (ad 99))] → W p l e ({ frames := 3, cells := 0, slots := 0, locals := 70 }) s m [.ref (ad 99), .int x1, .int x2].toArray below meth c H locs 0 0 (MQ below (Ans G out.1 A (dO G ad out.2 dw ++ [])) [.ref (ad 99), .int x1, .int x2].toArray s 0 0 A) (F0 m 23 ls []) := by
    intro d_ad hf H locs hw ls hl
    unfold b_X9_rest_23 at hf
    refine r_aload0 C hl 0 rfl dX9_rest_23 ?_
    refine lv_iconst (v := 1) C.1 C.2.1 dX9_rest_24 (by decide) ?_
    obtain ⟨u3, e3, hf⟩ := bx hf
    refine r_callVi (ws' := (dO G ad u3.2 dw ++ [])) (As := [.int 1]) (rest := []) C hw hl.1 kX9_refused ml_X9_210 (c_X9_refused l G ad _ d_ad dw 1 u3 e3) (CutX.take dO_f CutX.none) _ (gx_h dO_o) rfl ⟨rfl, rfl⟩ ⟨Nat.le_of_ble_eq_true rfl, Nat.le_of_ble_eq_true rfl⟩ rfl ⟨Nat.zero_le _, Nat.zero_le _⟩ rfl (Nat.le_of_ble_eq_true rfl) dX9_rest_25 (fun H locs hw => ?_)
    exact fin_i C hw (Option.some.inj hf) (fun o => o.1) (fun o => (dO G ad o.2 dw ++ [])) rfl rfl dX9_rest_28
  unfold f_X9_rest at hf
  refine r_aload0 C hl 0 rfl dX9_rest_0 ?_
  refine lv_iconst (v := 0) C.1 C.2.1 dX9_rest_1 (by decide) ?_
  obtain ⟨d_ad1, e1, hf⟩ := bx hf
  refine r_put C hw _ (gx_h dO_o) 0 fp_X9_75 rfl rfl (Nat.le_of_ble_eq_true rfl) (dO G ad d_ad1 dw ++ []) (sx_h dO_o (dO_p0 e1)) dX9_rest_2 (fun H locs hw => ?_)
  refine r_aload0 C hl 0 rfl dX9_rest_5 ?_
  refine r_iload0 C hl 1 rfl dX9_rest_6 ?_
  obtain ⟨u2, e2, hf⟩ := bx hf
  refine r_callVi (ws' := (dO G ad d_ad1 dw ++ [])) (As := [.int x1]) (rest := []) C hw hl.1 kX9_isData ml_X9_271 (c_X9_isData l G ad _ d_ad1 dw x1 u2 e2) (CutX.take dO_f CutX.none) _ (gx_h dO_o) rfl ⟨rfl, rfl⟩ ⟨Nat.le_of_ble_eq_true rfl, Nat.le_of_ble_eq_true rfl⟩ rfl ⟨Nat.zero_le _, Nat.zero_le _⟩ rfl (Nat.le_of_ble_eq_true rfl) dX9_rest_7 (fun H locs hw => ?_)
  refine lv_if_eq (tgt := 23) C.1 C.2.1 dX9_rest_10 (by decide) (fun hc => ?_) (fun hc => ?_)
  · replace hf := ifp hf hc
    exact hB_23  d_ad1 hf _ _ hw _ (lv_sub hl [0] rfl)
  · replace hf := ifn hf hc
    refine r_iload0 C hl 2 rfl dX9_rest_13 ?_
    refine lv_iconst (v := 0) C.1 C.2.1 dX9_rest_14 (by decide) ?_
    refine lv_bipush (v := 15) C.1 C.2.1 dX9_rest_15 (by decide) ?_
    obtain ⟨u4, e4, hf⟩ := bx hf
    refine r_callSi (ws' := (dO G ad d_ad1 dw ++ [])) (As := [.int x2, .int 0, .int 15]) (rest := []) C hw hl.1 kX9_in ml_X9_100 (c_X9_in l G _ x2 0 15 u4 e4) CutX.none ⟨rfl, rfl⟩ ⟨Nat.le_of_ble_eq_true rfl, Nat.le_of_ble_eq_true rfl⟩ rfl ⟨Nat.zero_le _, Nat.zero_le _⟩ rfl (Nat.le_of_ble_eq_true rfl) dX9_rest_17 (fun H locs hw => ?_)
    refine lv_if_ne (tgt := 29) C.1 C.2.1 dX9_rest_20 (by decide) (fun hc => ?_) (fun hc => ?_)
    · replace hf := ifn hf hc
      refine r_aload0 C hl 0 rfl dX9_rest_29 ?_
      refine r_iload0 C hl 1 rfl dX9_rest_30 ?_
      obtain ⟨u5, e5, hf⟩ := bx hf
      refine r_callSi (ws' := (dO G ad d_ad1 dw ++ [])) (As := [.int x1]) (rest := [.ref (ad 99)]) C hw hl.1 kX9_dataAt ml_X9_274 (c_X9_dataAt l G _ x1 u5 e5) CutX.none ⟨rfl, rfl⟩ ⟨Nat.le_of_ble_eq_true rfl, Nat.le_of_ble_eq_true rfl⟩ rfl ⟨Nat.zero_le _, Nat.zero_le _⟩ rfl (Nat.le_of_ble_eq_true rfl) dX9_rest_31 (fun H locs hw => ?_)
      obtain ⟨u6, e6, hf⟩ := bx hf
      refine r_callVi (ws' := (dO G ad u6.2 dw ++ [])) (As := [.int u5]) (rest := []) C hw hl.1 kX9_cutAll ml_X9_277 (c_X9_cutAll l G ad _ d_ad1 dw u5 u6 e6) (CutX.take dO_f CutX.none) _ (gx_h dO_o) rfl ⟨rfl, rfl⟩ ⟨Nat.le_of_ble_eq_true rfl, Nat.le_of_ble_eq_true rfl⟩ rfl ⟨Nat.zero_le _, Nat.zero_le _⟩ rfl (Nat.le_of_ble_eq_true rfl) dX9_rest_34 (fun H locs hw => ?_)
      refine lv_pop C.1 C.2.1 dX9_rest_37 rfl ?_
      refine r_aload0 C hl 0 rfl dX9_rest_38 ?_
      refine r_aload0 C hl 0 rfl dX9_rest_39 ?_
      refine r_get C hw _ (gx_h dO_o) 34 fl_X9_51 rfl dX9_rest_40 ?_
      refine r_iload0 C hl 2 rfl dX9_rest_43 ?_
      obtain ⟨v7_, e7, hf⟩ := bx hf
      refine r_iald C hw _ (gx_h dO_g34) e7 dX9_rest_44 ?_
      obtain ⟨u8, e8, hf⟩ := bx hf
      refine r_callVi (ws' := (dO G ad u8.2 dw ++ [])) (As := [.int v7_]) (rest := []) C hw hl.1 kX9_good ml_X9_222 (c_X9_good l G ad _ u6.2 dw v7_ u8 e8) (CutX.take dO_f CutX.none) _ (gx_h dO_o) rfl ⟨rfl, rfl⟩ ⟨Nat.le_of_ble_eq_true rfl, Nat.le_of_ble_eq_true rfl⟩ rfl ⟨Nat.zero_le _, Nat.zero_le _⟩ rfl (Nat.le_of_ble_eq_true rfl) dX9_rest_45 (fun H locs hw => ?_)
      exact fin_i C hw (Option.some.inj hf) (fun o => o.1) (fun o => (dO G ad o.2 dw ++ [])) rfl rfl dX9_rest_48
    · replace hf := ifp hf hc
      exact hB_23  d_ad1 hf _ _ hw _ (lv_sub hl [0] rfl)
set_option maxHeartbeats 4000000 in
set_option maxRecDepth 100000 in
theorem c_X9_rankOf (l : Launch) (G : GG) (ad : Nat → Nat) (sz : Nat) (d_ad : Pic) (dw : Int64) (x1 : Int32) (out : Int32) (hf : f_X9_rankOf d_ad x1 = some out) : Met l yX9_rankOf (.code yX9_rankOf cX9_rankOf 4 (some .int) :: BT) ({ frames := 0, cells := 0, slots := 0, locals := 0 }) (va_Pc [.ref (ad 99), .int x1] (PreW G sz (dO G ad d_ad dw ++ []))) (Ans G out (va_A (dO G ad d_ad dw ++ []) sz) (dO G ad d_ad dw ++ [])) 0 0 (va_A (dO G ad d_ad dw ++ []) sz) := by
  refine Met.into (by decide) (Nat.le_of_ble_eq_true rfl) ?_
  intro p e s m below meth c C hsz ls hl hw
  have hl : lv_has ls 4 [(0, .ref (ad 99)), (1, .int x1)] := hl
  clear hsz
  generalize va_A (dO G ad d_ad dw ++ []) sz = A at hw ⊢
  have hB_48 : ∀ (k4 : Int32 → Int32 → Option (Int32)) (hk4 : ∀ (v2 : Int32) (v3 : Int32), k4 v2 v3 = some out → ∀ (H : Heap) (locs : List Loc), Wd G A s H locs (dO G ad d_ad dw ++ []) → ∀ ls : Array Slot, lv_has ls 4 [(0, .ref (ad 99)), (1, .int x1), (2, .int v2), (3, .int v3)] → W p l e ({ frames := 0, cells := 0, slots := 0, locals := 0 }) s m [.ref (ad 99), .int x1].toArray below meth c H locs 0 0 (MQ below (Ans G out A (dO G ad d_ad dw ++ [])) [.ref (ad 99), .int x1].toArray s 0 0 A) (F0 m 4 ls [])), ∀ (v3 : Int32) (t0 : Int32), b_X9_rankOf_48 d_ad x1 k4 v3 t0 = some out → ∀ (H : Heap) (locs : List Loc), Wd G A s H locs (dO G ad d_ad dw ++ []) → ∀ ls : Array Slot, lv_has ls 4 [(0, .ref (ad 99)), (1, .int x1), (3, .int v3)] → W p l e ({ frames := 0, cells := 0, slots := 0, locals := 0 }) s m [.ref (ad 99), .int x1].toArray below meth c H locs 0 0 (MQ below (Ans G out A (dO G ad d_ad dw ++ [])) [.ref (ad 99), .int x1].toArray s 0 0 A) (F0 m 48 ls [.int t0]) := by
    intro k4 hk4 v3 t0 hf H locs hw ls hl
    unfold b_X9_rankOf_48 at hf
    refine lv_iconst (v := 1) C.1 C.2.1 dX9_rankOf_48 (by decide) ?_
    refine lv_goto (tgt := 53) C.1 C.2.1 dX9_rankOf_49 (by decide) ?_
    refine lv_iadd C.1 C.2.1 dX9_rankOf_53 ?_
    refine r_istore0 C hl [(2, .int (t0 + 1)), (0, .ref (ad 99)), (1, .int x1), (3, .int v3)] (by decide) rfl dX9_rankOf_54 (fun ls hl => ?_)
    refine r_iinc C hl 3 (v3 + 1) [(3, .int (v3 + 1)), (2, .int (t0 + 1)), (0, .ref (ad 99)), (1, .int x1)] rfl (iinc_e (by decide)) (by decide) rfl dX9_rankOf_55 (fun ls hl => ?_)
    refine lv_goto (tgt := 4) C.1 C.2.1 dX9_rankOf_58 (by decide) ?_
    exact hk4 (t0 + 1) (v3 + 1) hf _ _ hw _ (lv_sub hl [2, 3, 1, 0] rfl)
  have hB_52 : ∀ (k4 : Int32 → Int32 → Option (Int32)) (hk4 : ∀ (v2 : Int32) (v3 : Int32), k4 v2 v3 = some out → ∀ (H : Heap) (locs : List Loc), Wd G A s H locs (dO G ad d_ad dw ++ []) → ∀ ls : Array Slot, lv_has ls 4 [(0, .ref (ad 99)), (1, .int x1), (2, .int v2), (3, .int v3)] → W p l e ({ frames := 0, cells := 0, slots := 0, locals := 0 }) s m [.ref (ad 99), .int x1].toArray below meth c H locs 0 0 (MQ below (Ans G out A (dO G ad d_ad dw ++ [])) [.ref (ad 99), .int x1].toArray s 0 0 A) (F0 m 4 ls [])), ∀ (v3 : Int32) (t0 : Int32), b_X9_rankOf_52 d_ad x1 k4 v3 t0 = some out → ∀ (H : Heap) (locs : List Loc), Wd G A s H locs (dO G ad d_ad dw ++ []) → ∀ ls : Array Slot, lv_has ls 4 [(0, .ref (ad 99)), (1, .int x1), (3, .int v3)] → W p l e ({ frames := 0, cells := 0, slots := 0, locals := 0 }) s m [.ref (ad 99), .int x1].toArray below meth c H locs 0 0 (MQ below (Ans G out A (dO G ad d_ad dw ++ [])) [.ref (ad 99), .int x1].toArray s 0 0 A) (F0 m 52 ls [.int t0]) := by
    intro k4 hk4 v3 t0 hf H locs hw ls hl
    unfold b_X9_rankOf_52 at hf
    refine lv_iconst (v := 0) C.1 C.2.1 dX9_rankOf_52 (by decide) ?_
    refine lv_iadd C.1 C.2.1 dX9_rankOf_53 ?_
    refine r_istore0 C hl [(2, .int (t0 + 0)), (0, .ref (ad 99)), (1, .int x1), (3, .int v3)] (by decide) rfl dX9_rankOf_54 (fun ls hl => ?_)
    refine r_iinc C hl 3 (v3 + 1) [(3, .int (v3 + 1)), (2, .int (t0 + 0)), (0, .ref (ad 99)), (1, .int x1)] rfl (iinc_e (by decide)) (by decide) rfl dX9_rankOf_55 (fun ls hl => ?_)
    refine lv_goto (tgt := 4) C.1 C.2.1 dX9_rankOf_58 (by decide) ?_
    exact hk4 (t0 + 0) (v3 + 1) hf _ _ hw _ (lv_sub hl [2, 3, 1, 0] rfl)
  have hB_4 : ∀ (k4 : Int32 → Int32 → Option (Int32)) (hk4 : ∀ (v2 : Int32) (v3 : Int32), k4 v2 v3 = some out → ∀ (H : Heap) (locs : List Loc), Wd G A s H locs (dO G ad d_ad dw ++ []) → ∀ ls : Array Slot, lv_has ls 4 [(0, .ref (ad 99)), (1, .int x1), (2, .int v2), (3, .int v3)] → W p l e ({ frames := 0, cells := 0, slots := 0, locals := 0 }) s m [.ref (ad 99), .int x1].toArray below meth c H locs 0 0 (MQ below (Ans G out A (dO G ad d_ad dw ++ [])) [.ref (ad 99), .int x1].toArray s 0 0 A) (F0 m 4 ls [])), ∀ (v2 : Int32) (v3 : Int32), b_X9_rankOf_4 d_ad x1 k4 v2 v3 = some out → ∀ (H : Heap) (locs : List Loc), Wd G A s H locs (dO G ad d_ad dw ++ []) → ∀ ls : Array Slot, lv_has ls 4 [(0, .ref (ad 99)), (1, .int x1), (2, .int v2), (3, .int v3)] → W p l e ({ frames := 0, cells := 0, slots := 0, locals := 0 }) s m [.ref (ad 99), .int x1].toArray below meth c H locs 0 0 (MQ below (Ans G out A (dO G ad d_ad dw ++ [])) [.ref (ad 99), .int x1].toArray s 0 0 A) (F0 m 4 ls []) := by
    intro k4 hk4 v2 v3 hf H locs hw ls hl
    unfold b_X9_rankOf_4 at hf
    refine r_iload0 C hl 3 rfl dX9_rankOf_4 ?_
    refine r_aload0 C hl 0 rfl dX9_rankOf_5 ?_
    refine r_get C hw _ (gx_h dO_o) 5 fl_X9_219 rfl dX9_rankOf_6 ?_
    refine lv_icmp_ge (tgt := 61) C.1 C.2.1 dX9_rankOf_9 (by decide) (fun hc => ?_) (fun hc => ?_)
    · replace hf := ifp hf hc
      refine r_iload0 C hl 2 rfl dX9_rankOf_61 ?_
      exact fin_i C hw (Option.some.inj hf) (fun o => o) (fun o => (dO G ad d_ad dw ++ [])) rfl rfl dX9_rankOf_62
    · replace hf := ifn hf hc
      refine r_iload0 C hl 2 rfl dX9_rankOf_12 ?_
      refine r_aload0 C hl 0 rfl dX9_rankOf_13 ?_
      refine r_get C hw _ (gx_h dO_o) 41 fl_X9_69 rfl dX9_rankOf_14 ?_
      refine r_iload0 C hl 3 rfl dX9_rankOf_17 ?_
      obtain ⟨v1_, e1, hf⟩ := bx hf
      refine r_iald C hw _ (gx_h dO_g41) e1 dX9_rankOf_18 ?_
      refine r_aload0 C hl 0 rfl dX9_rankOf_19 ?_
      refine r_get C hw _ (gx_h dO_o) 41 fl_X9_69 rfl dX9_rankOf_20 ?_
      refine r_iload0 C hl 1 rfl dX9_rankOf_23 ?_
      obtain ⟨v2_, e2, hf⟩ := bx hf
      refine r_iald C hw _ (gx_h dO_g41) e2 dX9_rankOf_24 ?_
      refine lv_icmp_lt (tgt := 48) C.1 C.2.1 dX9_rankOf_25 (by decide) (fun hc => ?_) (fun hc => ?_)
      · replace hf := ifp hf hc
        exact hB_48 k4 hk4 v3 v2 hf _ _ hw _ (lv_sub hl [0, 1, 3] rfl)
      · replace hf := ifn hf hc
        refine r_aload0 C hl 0 rfl dX9_rankOf_28 ?_
        refine r_get C hw _ (gx_h dO_o) 41 fl_X9_69 rfl dX9_rankOf_29 ?_
        refine r_iload0 C hl 3 rfl dX9_rankOf_32 ?_
        obtain ⟨v3_, e3, hf⟩ := bx hf
        refine r_iald C hw _ (gx_h dO_g41) e3 dX9_rankOf_33 ?_
        refine r_aload0 C hl 0 rfl dX9_rankOf_34 ?_
        refine r_get C hw _ (gx_h dO_o) 41 fl_X9_69 rfl dX9_rankOf_35 ?_
        refine r_iload0 C hl 1 rfl dX9_rankOf_38 ?_
        obtain ⟨v4_, e4, hf⟩ := bx hf
        refine r_iald C hw _ (gx_h dO_g41) e4 dX9_rankOf_39 ?_
        refine lv_icmp_ne (tgt := 52) C.1 C.2.1 dX9_rankOf_40 (by decide) (fun hc => ?_) (fun hc => ?_)
        · replace hf := ifn hf hc
          exact hB_52 k4 hk4 v3 v2 hf _ _ hw _ (lv_sub hl [0, 1, 3] rfl)
        · replace hf := ifp hf hc
          refine r_iload0 C hl 3 rfl dX9_rankOf_43 ?_
          refine r_iload0 C hl 1 rfl dX9_rankOf_44 ?_
          refine lv_icmp_ge (tgt := 52) C.1 C.2.1 dX9_rankOf_45 (by decide) (fun hc => ?_) (fun hc => ?_)
          · replace hf := ifp hf hc
            exact hB_52 k4 hk4 v3 v2 hf _ _ hw _ (lv_sub hl [0, 1, 3] rfl)
          · replace hf := ifn hf hc
            exact hB_48 k4 hk4 v3 v2 hf _ _ hw _ (lv_sub hl [0, 1, 3] rfl)
  have hL_4 : ∀ n : Nat, ∀ (v2 : Int32) (v3 : Int32), L_X9_rankOf_4 d_ad x1  n v2 v3 = some out → ∀ (H : Heap) (locs : List Loc), Wd G A s H locs (dO G ad d_ad dw ++ []) → ∀ ls : Array Slot, lv_has ls 4 [(0, .ref (ad 99)), (1, .int x1), (2, .int v2), (3, .int v3)] → W p l e ({ frames := 0, cells := 0, slots := 0, locals := 0 }) s m [.ref (ad 99), .int x1].toArray below meth c H locs 0 0 (MQ below (Ans G out A (dO G ad d_ad dw ++ [])) [.ref (ad 99), .int x1].toArray s 0 0 A) (F0 m 4 ls []) := by
    intro  n
    induction n with
    | zero => intro v2 v3 hf; cases hf
    | succ n ih => exact hB_4 _ ih
  unfold f_X9_rankOf at hf
  refine lv_iconst (v := 0) C.1 C.2.1 dX9_rankOf_0 (by decide) ?_
  refine r_istore0 C hl [(2, .int 0), (0, .ref (ad 99)), (1, .int x1)] (by decide) rfl dX9_rankOf_1 (fun ls hl => ?_)
  refine lv_iconst (v := 0) C.1 C.2.1 dX9_rankOf_2 (by decide) ?_
  refine r_istore0 C hl [(3, .int 0), (2, .int 0), (0, .ref (ad 99)), (1, .int x1)] (by decide) rfl dX9_rankOf_3 (fun ls hl => ?_)
  exact hL_4  FU 0 0 hf _ _ hw _ (lv_sub hl [2, 3, 1, 0] rfl)
set_option maxHeartbeats 4000000 in
set_option maxRecDepth 100000 in
theorem c_X9_ranked (l : Launch) (G : GG) (ad : Nat → Nat) (sz : Nat) (d_ad : Pic) (dw : Int64) (x1 : Int32) (out : Int32 × Pic) (hf : f_X9_ranked d_ad x1 = some out) : Met l yX9_ranked (.code yX9_ranked cX9_ranked 3 (some .int) :: BT) ({ frames := 3, cells := 0, slots := 0, locals := 70 }) (va_Pc [.ref (ad 99), .int x1] (PreW G sz (dO G ad d_ad dw ++ []))) (Ans G out.1 (va_A (dO G ad d_ad dw ++ []) sz) (dO G ad out.2 dw ++ [])) 0 0 (va_A (dO G ad d_ad dw ++ []) sz) := by
  refine Met.into (by decide) (Nat.le_of_ble_eq_true rfl) ?_
  intro p e s m below meth c C hsz ls hl hw
  have hl : lv_has ls 3 [(0, .ref (ad 99)), (1, .int x1)] := hl
  clear hsz
  generalize va_A (dO G ad d_ad dw ++ []) sz = A at hw ⊢
  have hB_24 : ∀ (d_ad : Pic), b_X9_ranked_24 x1  d_ad = some out → ∀ (H : Heap) (locs : List Loc), Wd G A s H locs (dO G ad d_ad dw ++ []) → ∀ ls : Array Slot, lv_has ls 3 [(0, .ref (ad 99))] → W p l e ({ frames := 3, cells := 0, slots := 0, locals := 70 }) s m [.ref (ad 99), .int x1].toArray below meth c H locs 0 0 (MQ below (Ans G out.1 A (dO G ad out.2 dw ++ [])) [.ref (ad 99), .int x1].toArray s 0 0 A) (F0 m 24 ls []) := by
    intro d_ad hf H locs hw ls hl
    unfold b_X9_ranked_24 at hf
    refine r_aload0 C hl 0 rfl dX9_ranked_24 ?_
    refine lv_iconst (v := 1) C.1 C.2.1 dX9_ranked_25 (by decide) ?_
    obtain ⟨u2, e2, hf⟩ := bx hf
    refine r_callVi (ws' := (dO G ad u2.2 dw ++ [])) (As := [.int 1]) (rest := []) C hw hl.1 kX9_refused ml_X9_210 (c_X9_refused l G ad _ d_ad dw 1 u2 e2) (CutX.take dO_f CutX.none) _ (gx_h dO_o) rfl ⟨rfl, rfl⟩ ⟨Nat.le_of_ble_eq_true rfl, Nat.le_of_ble_eq_true rfl⟩ rfl ⟨Nat.zero_le _, Nat.zero_le _⟩ rfl (Nat.le_of_ble_eq_true rfl) dX9_ranked_26 (fun H locs hw => ?_)
    exact fin_i C hw (Option.some.inj hf) (fun o => o.1) (fun o => (dO G ad o.2 dw ++ [])) rfl rfl dX9_ranked_29
  have hB_62 : ∀ (k62 : Pic → Int32 → Option (Int32 × Pic)) (hk62 : ∀ (d_ad : Pic) (v2 : Int32), k62 d_ad v2 = some out → ∀ (H : Heap) (locs : List Loc), Wd G A s H locs (dO G ad d_ad dw ++ []) → ∀ ls : Array Slot, lv_has ls 3 [(0, .ref (ad 99)), (1, .int x1), (2, .int v2)] → W p l e ({ frames := 3, cells := 0, slots := 0, locals := 70 }) s m [.ref (ad 99), .int x1].toArray below meth c H locs 0 0 (MQ below (Ans G out.1 A (dO G ad out.2 dw ++ [])) [.ref (ad 99), .int x1].toArray s 0 0 A) (F0 m 62 ls [])), ∀ (d_ad : Pic) (v2 : Int32), b_X9_ranked_62 x1 k62 d_ad v2 = some out → ∀ (H : Heap) (locs : List Loc), Wd G A s H locs (dO G ad d_ad dw ++ []) → ∀ ls : Array Slot, lv_has ls 3 [(0, .ref (ad 99)), (1, .int x1), (2, .int v2)] → W p l e ({ frames := 3, cells := 0, slots := 0, locals := 70 }) s m [.ref (ad 99), .int x1].toArray below meth c H locs 0 0 (MQ below (Ans G out.1 A (dO G ad out.2 dw ++ [])) [.ref (ad 99), .int x1].toArray s 0 0 A) (F0 m 62 ls []) := by
    intro k62 hk62 d_ad v2 hf H locs hw ls hl
    unfold b_X9_ranked_62 at hf
    refine r_aload0 C hl 0 rfl dX9_ranked_62 ?_
    refine r_iload0 C hl 2 rfl dX9_ranked_63 ?_
    obtain ⟨u3, e3, hf⟩ := bx hf
    refine r_callVi (ws' := (dO G ad d_ad dw ++ [])) (As := [.int v2]) (rest := []) C hw hl.1 kX9_rankOf ml_X9_280 (c_X9_rankOf l G ad _ d_ad dw v2 u3 e3) (CutX.take dO_f CutX.none) _ (gx_h dO_o) rfl ⟨rfl, rfl⟩ ⟨Nat.le_of_ble_eq_true rfl, Nat.le_of_ble_eq_true rfl⟩ rfl ⟨Nat.zero_le _, Nat.zero_le _⟩ rfl (Nat.le_of_ble_eq_true rfl) dX9_ranked_64 (fun H locs hw => ?_)
    refine r_iload0 C hl 1 rfl dX9_ranked_67 ?_
    refine lv_icmp_eq (tgt := 77) C.1 C.2.1 dX9_ranked_68 (by decide) (fun hc => ?_) (fun hc => ?_)
    · replace hf := ifp hf hc
      refine r_aload0 C hl 0 rfl dX9_ranked_77 ?_
      refine r_iload0 C hl 2 rfl dX9_ranked_78 ?_
      obtain ⟨u4, e4, hf⟩ := bx hf
      refine r_callVi (ws' := (dO G ad u4.2 dw ++ [])) (As := [.int v2]) (rest := []) C hw hl.1 kX9_good ml_X9_222 (c_X9_good l G ad _ d_ad dw v2 u4 e4) (CutX.take dO_f CutX.none) _ (gx_h dO_o) rfl ⟨rfl, rfl⟩ ⟨Nat.le_of_ble_eq_true rfl, Nat.le_of_ble_eq_true rfl⟩ rfl ⟨Nat.zero_le _, Nat.zero_le _⟩ rfl (Nat.le_of_ble_eq_true rfl) dX9_ranked_79 (fun H locs hw => ?_)
      exact fin_i C hw (Option.some.inj hf) (fun o => o.1) (fun o => (dO G ad o.2 dw ++ [])) rfl rfl dX9_ranked_82
    · replace hf := ifn hf hc
      refine r_iinc C hl 2 (v2 + 1) [(2, .int (v2 + 1)), (0, .ref (ad 99)), (1, .int x1)] rfl (iinc_e (by decide)) (by decide) rfl dX9_ranked_71 (fun ls hl => ?_)
      refine lv_goto (tgt := 62) C.1 C.2.1 dX9_ranked_74 (by decide) ?_
      exact hk62 d_ad (v2 + 1) hf _ _ hw _ (lv_sub hl [1, 2, 0] rfl)
  have hL_62 : ∀ n : Nat, ∀ (d_ad : Pic) (v2 : Int32), L_X9_ranked_62 x1  n d_ad v2 = some out → ∀ (H : Heap) (locs : List Loc), Wd G A s H locs (dO G ad d_ad dw ++ []) → ∀ ls : Array Slot, lv_has ls 3 [(0, .ref (ad 99)), (1, .int x1), (2, .int v2)] → W p l e ({ frames := 3, cells := 0, slots := 0, locals := 70 }) s m [.ref (ad 99), .int x1].toArray below meth c H locs 0 0 (MQ below (Ans G out.1 A (dO G ad out.2 dw ++ [])) [.ref (ad 99), .int x1].toArray s 0 0 A) (F0 m 62 ls []) := by
    intro  n
    induction n with
    | zero => intro d_ad v2 hf; cases hf
    | succ n ih => exact hB_62 _ ih
  have hB_32 : ∀ (k32 : Pic → Int32 → Option (Int32 × Pic)) (hk32 : ∀ (d_ad : Pic) (v2 : Int32), k32 d_ad v2 = some out → ∀ (H : Heap) (locs : List Loc), Wd G A s H locs (dO G ad d_ad dw ++ []) → ∀ ls : Array Slot, lv_has ls 3 [(0, .ref (ad 99)), (1, .int x1), (2, .int v2)] → W p l e ({ frames := 3, cells := 0, slots := 0, locals := 70 }) s m [.ref (ad 99), .int x1].toArray below meth c H locs 0 0 (MQ below (Ans G out.1 A (dO G ad out.2 dw ++ [])) [.ref (ad 99), .int x1].toArray s 0 0 A) (F0 m 32 ls [])), ∀ (d_ad : Pic) (v2 : Int32), b_X9_ranked_32 x1 k32 d_ad v2 = some out → ∀ (H : Heap) (locs : List Loc), Wd G A s H locs (dO G ad d_ad dw ++ []) → ∀ ls : Array Slot, lv_has ls 3 [(0, .ref (ad 99)), (1, .int x1), (2, .int v2)] → W p l e ({ frames := 3, cells := 0, slots := 0, locals := 70 }) s m [.ref (ad 99), .int x1].toArray below meth c H locs 0 0 (MQ below (Ans G out.1 A (dO G ad out.2 dw ++ [])) [.ref (ad 99), .int x1].toArray s 0 0 A) (F0 m 32 ls []) := by
    intro k32 hk32 d_ad v2 hf H locs hw ls hl
    unfold b_X9_ranked_32 at hf
    refine r_iload0 C hl 2 rfl dX9_ranked_32 ?_
    refine r_aload0 C hl 0 rfl dX9_ranked_33 ?_
    refine r_get C hw _ (gx_h dO_o) 5 fl_X9_219 rfl dX9_ranked_34 ?_
    refine lv_icmp_ge (tgt := 60) C.1 C.2.1 dX9_ranked_37 (by decide) (fun hc => ?_) (fun hc => ?_)
    · replace hf := ifp hf hc
      refine lv_iconst (v := 0) C.1 C.2.1 dX9_ranked_60 (by decide) ?_
      refine r_istore0 C hl [(2, .int 0), (0, .ref (ad 99)), (1, .int x1)] (by decide) rfl dX9_ranked_61 (fun ls hl => ?_)
      exact hL_62  FU d_ad 0 hf _ _ hw _ (lv_sub hl [1, 2, 0] rfl)
    · replace hf := ifn hf hc
      refine r_aload0 C hl 0 rfl dX9_ranked_40 ?_
      refine r_get C hw _ (gx_h dO_o) 41 fl_X9_69 rfl dX9_ranked_41 ?_
      refine r_iload0 C hl 2 rfl dX9_ranked_44 ?_
      refine r_aload0 C hl 0 rfl dX9_ranked_45 ?_
      refine r_iload0 C hl 2 rfl dX9_ranked_46 ?_
      obtain ⟨u5, e5, hf⟩ := bx hf
      refine r_callSi (ws' := (dO G ad d_ad dw ++ [])) (As := [.int v2]) (rest := [.ref (ad 99), .int v2, .ref (ad 41)]) C hw hl.1 kX9_dataAt ml_X9_274 (c_X9_dataAt l G _ v2 u5 e5) CutX.none ⟨rfl, rfl⟩ ⟨Nat.le_of_ble_eq_true rfl, Nat.le_of_ble_eq_true rfl⟩ rfl ⟨Nat.zero_le _, Nat.zero_le _⟩ rfl (Nat.le_of_ble_eq_true rfl) dX9_ranked_47 (fun H locs hw => ?_)
      obtain ⟨u6, e6, hf⟩ := bx hf
      refine r_callVi (ws' := (dO G ad u6.2 dw ++ [])) (As := [.int u5]) (rest := [.int v2, .ref (ad 41)]) C hw hl.1 kX9_cutAll ml_X9_277 (c_X9_cutAll l G ad _ d_ad dw u5 u6 e6) (CutX.take dO_f CutX.none) _ (gx_h dO_o) rfl ⟨rfl, rfl⟩ ⟨Nat.le_of_ble_eq_true rfl, Nat.le_of_ble_eq_true rfl⟩ rfl ⟨Nat.zero_le _, Nat.zero_le _⟩ rfl (Nat.le_of_ble_eq_true rfl) dX9_ranked_50 (fun H locs hw => ?_)
      obtain ⟨d_ad7, e7, hf⟩ := bx hf
      refine r_iast C hw _ (gx_h dO_g41) e7 (dO G ad d_ad7 dw ++ []) (fun h => (sx_h dO_g41 (dO_s41 h))) dX9_ranked_53 (fun H locs hw => ?_)
      refine r_iinc C hl 2 (v2 + 1) [(2, .int (v2 + 1)), (0, .ref (ad 99)), (1, .int x1)] rfl (iinc_e (by decide)) (by decide) rfl dX9_ranked_54 (fun ls hl => ?_)
      refine lv_goto (tgt := 32) C.1 C.2.1 dX9_ranked_57 (by decide) ?_
      exact hk32 d_ad7 (v2 + 1) hf _ _ hw _ (lv_sub hl [1, 2, 0] rfl)
  have hL_32 : ∀ n : Nat, ∀ (d_ad : Pic) (v2 : Int32), L_X9_ranked_32 x1  n d_ad v2 = some out → ∀ (H : Heap) (locs : List Loc), Wd G A s H locs (dO G ad d_ad dw ++ []) → ∀ ls : Array Slot, lv_has ls 3 [(0, .ref (ad 99)), (1, .int x1), (2, .int v2)] → W p l e ({ frames := 3, cells := 0, slots := 0, locals := 70 }) s m [.ref (ad 99), .int x1].toArray below meth c H locs 0 0 (MQ below (Ans G out.1 A (dO G ad out.2 dw ++ [])) [.ref (ad 99), .int x1].toArray s 0 0 A) (F0 m 32 ls []) := by
    intro  n
    induction n with
    | zero => intro d_ad v2 hf; cases hf
    | succ n ih => exact hB_32 _ ih
  unfold f_X9_ranked at hf
  refine r_aload0 C hl 0 rfl dX9_ranked_0 ?_
  refine lv_iconst (v := 0) C.1 C.2.1 dX9_ranked_1 (by decide) ?_
  obtain ⟨d_ad1, e1, hf⟩ := bx hf
  refine r_put C hw _ (gx_h dO_o) 0 fp_X9_75 rfl rfl (Nat.le_of_ble_eq_true rfl) (dO G ad d_ad1 dw ++ []) (sx_h dO_o (dO_p0 e1)) dX9_ranked_2 (fun H locs hw => ?_)
  refine r_aload0 C hl 0 rfl dX9_ranked_5 ?_
  refine r_get C hw _ (gx_h dO_o) 19 fl_X9_225 rfl dX9_ranked_6 ?_
  refine lv_if_eq (tgt := 24) C.1 C.2.1 dX9_ranked_9 (by decide) (fun hc => ?_) (fun hc => ?_)
  · replace hf := ifp hf hc
    exact hB_24  d_ad1 hf _ _ hw _ (lv_sub hl [0] rfl)
  · replace hf := ifn hf hc
    refine r_iload0 C hl 1 rfl dX9_ranked_12 ?_
    refine lv_if_lt (tgt := 24) C.1 C.2.1 dX9_ranked_13 (by decide) (fun hc => ?_) (fun hc => ?_)
    · replace hf := ifp hf hc
      exact hB_24  d_ad1 hf _ _ hw _ (lv_sub hl [0] rfl)
    · replace hf := ifn hf hc
      refine r_iload0 C hl 1 rfl dX9_ranked_16 ?_
      refine r_aload0 C hl 0 rfl dX9_ranked_17 ?_
      refine r_get C hw _ (gx_h dO_o) 5 fl_X9_219 rfl dX9_ranked_18 ?_
      refine lv_icmp_lt (tgt := 30) C.1 C.2.1 dX9_ranked_21 (by decide) (fun hc => ?_) (fun hc => ?_)
      · replace hf := ifp hf hc
        refine lv_iconst (v := 0) C.1 C.2.1 dX9_ranked_30 (by decide) ?_
        refine r_istore0 C hl [(2, .int 0), (0, .ref (ad 99)), (1, .int x1)] (by decide) rfl dX9_ranked_31 (fun ls hl => ?_)
        exact hL_32  FU d_ad1 0 hf _ _ hw _ (lv_sub hl [1, 2, 0] rfl)
      · replace hf := ifn hf hc
        exact hB_24  d_ad1 hf _ _ hw _ (lv_sub hl [0] rfl)
set_option maxHeartbeats 4000000 in
set_option maxRecDepth 100000 in
theorem c_X9_sort (l : Launch) (G : GG) (ad : Nat → Nat) (sz : Nat) (d_ad : Pic) (dw : Int64) (x1 : Int32) (out : Int32 × Pic) (hf : f_X9_sort d_ad x1 = some out) : Met l yX9_sort (.code yX9_sort cX9_sort 2 (some .int) :: BT) ({ frames := 3, cells := 0, slots := 0, locals := 70 }) (va_Pc [.ref (ad 99), .int x1] (PreW G sz (dO G ad d_ad dw ++ []))) (Ans G out.1 (va_A (dO G ad d_ad dw ++ []) sz) (dO G ad out.2 dw ++ [])) 0 0 (va_A (dO G ad d_ad dw ++ []) sz) := by
  refine Met.into (by decide) (Nat.le_of_ble_eq_true rfl) ?_
  intro p e s m below meth c C hsz ls hl hw
  have hl : lv_has ls 2 [(0, .ref (ad 99)), (1, .int x1)] := hl
  clear hsz
  generalize va_A (dO G ad d_ad dw ++ []) sz = A at hw ⊢
  have hB_55 : ∀ (d_ad : Pic) (t0 : Int32), b_X9_sort_55 x1  d_ad t0 = some out → ∀ (H : Heap) (locs : List Loc), Wd G A s H locs (dO G ad d_ad dw ++ []) → ∀ ls : Array Slot, lv_has ls 2 [] → W p l e ({ frames := 3, cells := 0, slots := 0, locals := 70 }) s m [.ref (ad 99), .int x1].toArray below meth c H locs 0 0 (MQ below (Ans G out.1 A (dO G ad out.2 dw ++ [])) [.ref (ad 99), .int x1].toArray s 0 0 A) (F0 m 55 ls [.int t0, .ref (ad 99)]) := by
    intro d_ad t0 hf H locs hw ls hl
    unfold b_X9_sort_55 at hf
    obtain ⟨u7, e7, hf⟩ := bx hf
    refine r_callVi (ws' := (dO G ad u7.2 dw ++ [])) (As := [.int t0]) (rest := []) C hw hl.1 kX9_good ml_X9_222 (c_X9_good l G ad _ d_ad dw t0 u7 e7) (CutX.take dO_f CutX.none) _ (gx_h dO_o) rfl ⟨rfl, rfl⟩ ⟨Nat.le_of_ble_eq_true rfl, Nat.le_of_ble_eq_true rfl⟩ rfl ⟨Nat.zero_le _, Nat.zero_le _⟩ rfl (Nat.le_of_ble_eq_true rfl) dX9_sort_55 (fun H locs hw => ?_)
    exact fin_i C hw (Option.some.inj hf) (fun o => o.1) (fun o => (dO G ad o.2 dw ++ [])) rfl rfl dX9_sort_58
  unfold f_X9_sort at hf
  refine r_aload0 C hl 0 rfl dX9_sort_0 ?_
  refine lv_iconst (v := 0) C.1 C.2.1 dX9_sort_1 (by decide) ?_
  obtain ⟨d_ad1, e1, hf⟩ := bx hf
  refine r_put C hw _ (gx_h dO_o) 0 fp_X9_75 rfl rfl (Nat.le_of_ble_eq_true rfl) (dO G ad d_ad1 dw ++ []) (sx_h dO_o (dO_p0 e1)) dX9_sort_2 (fun H locs hw => ?_)
  refine r_aload0 C hl 0 rfl dX9_sort_5 ?_
  refine r_iload0 C hl 1 rfl dX9_sort_6 ?_
  obtain ⟨u2, e2, hf⟩ := bx hf
  refine r_callVi (ws' := (dO G ad d_ad1 dw ++ [])) (As := [.int x1]) (rest := []) C hw hl.1 kX9_isData ml_X9_271 (c_X9_isData l G ad _ d_ad1 dw x1 u2 e2) (CutX.take dO_f CutX.none) _ (gx_h dO_o) rfl ⟨rfl, rfl⟩ ⟨Nat.le_of_ble_eq_true rfl, Nat.le_of_ble_eq_true rfl⟩ rfl ⟨Nat.zero_le _, Nat.zero_le _⟩ rfl (Nat.le_of_ble_eq_true rfl) dX9_sort_7 (fun H locs hw => ?_)
  refine lv_if_ne (tgt := 19) C.1 C.2.1 dX9_sort_10 (by decide) (fun hc => ?_) (fun hc => ?_)
  · replace hf := ifn hf hc
    refine r_aload0 C hl 0 rfl dX9_sort_19 ?_
    refine r_aload0 C hl 0 rfl dX9_sort_20 ?_
    refine r_iload0 C hl 1 rfl dX9_sort_21 ?_
    obtain ⟨u3, e3, hf⟩ := bx hf
    refine r_callSi (ws' := (dO G ad d_ad1 dw ++ [])) (As := [.int x1]) (rest := [.ref (ad 99), .ref (ad 99)]) C hw hl.1 kX9_dataAt ml_X9_274 (c_X9_dataAt l G _ x1 u3 e3) CutX.none ⟨rfl, rfl⟩ ⟨Nat.le_of_ble_eq_true rfl, Nat.le_of_ble_eq_true rfl⟩ rfl ⟨Nat.zero_le _, Nat.zero_le _⟩ rfl (Nat.le_of_ble_eq_true rfl) dX9_sort_22 (fun H locs hw => ?_)
    obtain ⟨u4, e4, hf⟩ := bx hf
    refine r_callVi (ws' := (dO G ad u4.2 dw ++ [])) (As := [.int u3]) (rest := [.ref (ad 99)]) C hw hl.1 kX9_areAlike ml_X9_283 (c_X9_areAlike l G ad _ d_ad1 dw u3 u4 e4) (CutX.take dO_f CutX.none) _ (gx_h dO_o) rfl ⟨rfl, rfl⟩ ⟨Nat.le_of_ble_eq_true rfl, Nat.le_of_ble_eq_true rfl⟩ rfl ⟨Nat.zero_le _, Nat.zero_le _⟩ rfl (Nat.le_of_ble_eq_true rfl) dX9_sort_25 (fun H locs hw => ?_)
    refine lv_if_eq (tgt := 35) C.1 C.2.1 dX9_sort_28 (by decide) (fun hc => ?_) (fun hc => ?_)
    · replace hf := ifp hf hc
      refine r_aload0 C hl 0 rfl dX9_sort_35 ?_
      refine r_iload0 C hl 1 rfl dX9_sort_36 ?_
      obtain ⟨u5, e5, hf⟩ := bx hf
      refine r_callSi (ws' := (dO G ad u4.2 dw ++ [])) (As := [.int x1]) (rest := [.ref (ad 99), .ref (ad 99)]) C hw hl.1 kX9_dataAt ml_X9_274 (c_X9_dataAt l G _ x1 u5 e5) CutX.none ⟨rfl, rfl⟩ ⟨Nat.le_of_ble_eq_true rfl, Nat.le_of_ble_eq_true rfl⟩ rfl ⟨Nat.zero_le _, Nat.zero_le _⟩ rfl (Nat.le_of_ble_eq_true rfl) dX9_sort_37 (fun H locs hw => ?_)
      obtain ⟨u6, e6, hf⟩ := bx hf
      refine r_callVi (ws' := (dO G ad u6.2 dw ++ [])) (As := [.int u5]) (rest := [.ref (ad 99)]) C hw hl.1 kX9_cutAll ml_X9_277 (c_X9_cutAll l G ad _ u4.2 dw u5 u6 e6) (CutX.take dO_f CutX.none) _ (gx_h dO_o) rfl ⟨rfl, rfl⟩ ⟨Nat.le_of_ble_eq_true rfl, Nat.le_of_ble_eq_true rfl⟩ rfl ⟨Nat.zero_le _, Nat.zero_le _⟩ rfl (Nat.le_of_ble_eq_true rfl) dX9_sort_40 (fun H locs hw => ?_)
      refine r_aload0 C hl 0 rfl dX9_sort_43 ?_
      refine r_get C hw _ (gx_h dO_o) 4 fl_X9_231 rfl dX9_sort_44 ?_
      refine lv_icmp_le (tgt := 54) C.1 C.2.1 dX9_sort_47 (by decide) (fun hc => ?_) (fun hc => ?_)
      · replace hf := ifp hf hc
        refine lv_iconst (v := 0) C.1 C.2.1 dX9_sort_54 (by decide) ?_
        exact hB_55  u6.2 0 hf _ _ hw _ (lv_sub hl [] rfl)
      · replace hf := ifn hf hc
        refine lv_iconst (v := 2) C.1 C.2.1 dX9_sort_50 (by decide) ?_
        refine lv_goto (tgt := 55) C.1 C.2.1 dX9_sort_51 (by decide) ?_
        exact hB_55  u6.2 2 hf _ _ hw _ (lv_sub hl [] rfl)
    · replace hf := ifn hf hc
      refine lv_iconst (v := 1) C.1 C.2.1 dX9_sort_31 (by decide) ?_
      refine lv_goto (tgt := 55) C.1 C.2.1 dX9_sort_32 (by decide) ?_
      exact hB_55  u4.2 1 hf _ _ hw _ (lv_sub hl [] rfl)
  · replace hf := ifp hf hc
    refine r_aload0 C hl 0 rfl dX9_sort_13 ?_
    refine lv_iconst (v := 1) C.1 C.2.1 dX9_sort_14 (by decide) ?_
    obtain ⟨u8, e8, hf⟩ := bx hf
    refine r_callVi (ws' := (dO G ad u8.2 dw ++ [])) (As := [.int 1]) (rest := []) C hw hl.1 kX9_refused ml_X9_210 (c_X9_refused l G ad _ d_ad1 dw 1 u8 e8) (CutX.take dO_f CutX.none) _ (gx_h dO_o) rfl ⟨rfl, rfl⟩ ⟨Nat.le_of_ble_eq_true rfl, Nat.le_of_ble_eq_true rfl⟩ rfl ⟨Nat.zero_le _, Nat.zero_le _⟩ rfl (Nat.le_of_ble_eq_true rfl) dX9_sort_15 (fun H locs hw => ?_)
    exact fin_i C hw (Option.some.inj hf) (fun o => o.1) (fun o => (dO G ad o.2 dw ++ [])) rfl rfl dX9_sort_18
set_option maxHeartbeats 4000000 in
set_option maxRecDepth 100000 in
theorem c_X9_homeOf (l : Launch) (G : GG)  (sz : Nat)  (x0 x1 : Int32) (out : Int32) (hf : f_X9_homeOf x0 x1 = some out) : Met l yX9_homeOf (.code yX9_homeOf cX9_homeOf 2 (some .int) :: BT) ({ frames := 0, cells := 0, slots := 0, locals := 0 }) (va_Pc [.int x0, .int x1] (PreW G sz [])) (Ans G out (va_A [] sz) []) 0 0 (va_A [] sz) := by
  refine Met.into (by decide) (Nat.le_of_ble_eq_true rfl) ?_
  intro p e s m below meth c C hsz ls hl hw
  have hl : lv_has ls 2 [(0, .int x0), (1, .int x1)] := hl
  clear hsz
  generalize va_A [] sz = A at hw ⊢
  unfold f_X9_homeOf at hf
  refine r_iload0 C hl 0 rfl dX9_homeOf_0 ?_
  refine r_iload0 C hl 1 rfl dX9_homeOf_1 ?_
  refine lv_iadd C.1 C.2.1 dX9_homeOf_2 ?_
  refine lv_iconst (v := 1) C.1 C.2.1 dX9_homeOf_3 (by decide) ?_
  refine lv_isub C.1 C.2.1 dX9_homeOf_4 ?_
  refine r_iload0 C hl 1 rfl dX9_homeOf_5 ?_
  obtain ⟨v1_, e1, hf⟩ := bx hf
  refine r_idiv C e1 dX9_homeOf_6 ?_
  refine r_iload0 C hl 1 rfl dX9_homeOf_7 ?_
  refine lv_imul C.1 C.2.1 dX9_homeOf_8 ?_
  exact fin_i C hw (Option.some.inj hf) (fun o => o) (fun o => []) rfl rfl dX9_homeOf_9
set_option maxHeartbeats 4000000 in
set_option maxRecDepth 100000 in
theorem c_X9_framesOf (l : Launch) (G : GG)  (sz : Nat)  (x0 : Int32) (out : Int32) (hf : f_X9_framesOf x0 = some out) : Met l yX9_framesOf (.code yX9_framesOf cX9_framesOf 3 (some .int) :: BT) ({ frames := 0, cells := 0, slots := 0, locals := 0 }) (va_Pc [.int x0] (PreW G sz [])) (Ans G out (va_A [] sz) []) 0 0 (va_A [] sz) := by
  refine Met.into (by decide) (Nat.le_of_ble_eq_true rfl) ?_
  intro p e s m below meth c C hsz ls hl hw
  have hl : lv_has ls 3 [(0, .int x0)] := hl
  clear hsz
  generalize va_A [] sz = A at hw ⊢
  have hB_4 : ∀ (k4 : Int32 → Int32 → Option (Int32)) (hk4 : ∀ (v1 : Int32) (v2 : Int32), k4 v1 v2 = some out → ∀ (H : Heap) (locs : List Loc), Wd G A s H locs [] → ∀ ls : Array Slot, lv_has ls 3 [(0, .int x0), (1, .int v1), (2, .int v2)] → W p l e ({ frames := 0, cells := 0, slots := 0, locals := 0 }) s m [.int x0].toArray below meth c H locs 0 0 (MQ below (Ans G out A []) [.int x0].toArray s 0 0 A) (F0 m 4 ls [])), ∀ (v1 : Int32) (v2 : Int32), b_X9_framesOf_4 x0 k4 v1 v2 = some out → ∀ (H : Heap) (locs : List Loc), Wd G A s H locs [] → ∀ ls : Array Slot, lv_has ls 3 [(0, .int x0), (1, .int v1), (2, .int v2)] → W p l e ({ frames := 0, cells := 0, slots := 0, locals := 0 }) s m [.int x0].toArray below meth c H locs 0 0 (MQ below (Ans G out A []) [.int x0].toArray s 0 0 A) (F0 m 4 ls []) := by
    intro k4 hk4 v1 v2 hf H locs hw ls hl
    unfold b_X9_framesOf_4 at hf
    refine r_iload0 C hl 2 rfl dX9_framesOf_4 ?_
    refine lv_iconst (v := 4) C.1 C.2.1 dX9_framesOf_5 (by decide) ?_
    refine lv_icmp_gt (tgt := 36) C.1 C.2.1 dX9_framesOf_6 (by decide) (fun hc => ?_) (fun hc => ?_)
    · replace hf := ifp hf hc
      refine r_iload0 C hl 1 rfl dX9_framesOf_36 ?_
      exact fin_i C hw (Option.some.inj hf) (fun o => o) (fun o => []) rfl rfl dX9_framesOf_37
    · replace hf := ifn hf hc
      refine lv_bipush (v := 16) C.1 C.2.1 dX9_framesOf_9 (by decide) ?_
      refine r_iload0 C hl 2 rfl dX9_framesOf_11 ?_
      refine lv_imul C.1 C.2.1 dX9_framesOf_12 ?_
      refine r_iload0 C hl 0 rfl dX9_framesOf_13 ?_
      obtain ⟨v1_, e1, hf⟩ := bx hf
      refine r_irem C e1 dX9_framesOf_14 ?_
      refine r_iload0 C hl 1 rfl dX9_framesOf_15 ?_
      refine lv_imul C.1 C.2.1 dX9_framesOf_16 ?_
      refine lv_bipush (v := 16) C.1 C.2.1 dX9_framesOf_17 (by decide) ?_
      refine r_iload0 C hl 1 rfl dX9_framesOf_19 ?_
      refine lv_imul C.1 C.2.1 dX9_framesOf_20 ?_
      refine r_iload0 C hl 0 rfl dX9_framesOf_21 ?_
      obtain ⟨v2_, e2, hf⟩ := bx hf
      refine r_irem C e2 dX9_framesOf_22 ?_
      refine r_iload0 C hl 2 rfl dX9_framesOf_23 ?_
      refine lv_imul C.1 C.2.1 dX9_framesOf_24 ?_
      refine lv_icmp_ge (tgt := 30) C.1 C.2.1 dX9_framesOf_25 (by decide) (fun hc => ?_) (fun hc => ?_)
      · replace hf := ifp hf hc
        refine r_iinc C hl 2 (v2 + 1) [(2, .int (v2 + 1)), (0, .int x0), (1, .int v1)] rfl (iinc_e (by decide)) (by decide) rfl dX9_framesOf_30 (fun ls hl => ?_)
        refine lv_goto (tgt := 4) C.1 C.2.1 dX9_framesOf_33 (by decide) ?_
        exact hk4 v1 (v2 + 1) hf _ _ hw _ (lv_sub hl [1, 2, 0] rfl)
      · replace hf := ifn hf hc
        refine r_iload0 C hl 2 rfl dX9_framesOf_28 ?_
        refine r_istore0 C hl [(1, .int v2), (0, .int x0), (2, .int v2)] (by decide) rfl dX9_framesOf_29 (fun ls hl => ?_)
        refine r_iinc C hl 2 (v2 + 1) [(2, .int (v2 + 1)), (1, .int v2), (0, .int x0)] rfl (iinc_e (by decide)) (by decide) rfl dX9_framesOf_30 (fun ls hl => ?_)
        refine lv_goto (tgt := 4) C.1 C.2.1 dX9_framesOf_33 (by decide) ?_
        exact hk4 v2 (v2 + 1) hf _ _ hw _ (lv_sub hl [2, 1, 0] rfl)
  have hL_4 : ∀ n : Nat, ∀ (v1 : Int32) (v2 : Int32), L_X9_framesOf_4 x0  n v1 v2 = some out → ∀ (H : Heap) (locs : List Loc), Wd G A s H locs [] → ∀ ls : Array Slot, lv_has ls 3 [(0, .int x0), (1, .int v1), (2, .int v2)] → W p l e ({ frames := 0, cells := 0, slots := 0, locals := 0 }) s m [.int x0].toArray below meth c H locs 0 0 (MQ below (Ans G out A []) [.int x0].toArray s 0 0 A) (F0 m 4 ls []) := by
    intro  n
    induction n with
    | zero => intro v1 v2 hf; cases hf
    | succ n ih => exact hB_4 _ ih
  unfold f_X9_framesOf at hf
  refine lv_iconst (v := 1) C.1 C.2.1 dX9_framesOf_0 (by decide) ?_
  refine r_istore0 C hl [(1, .int 1), (0, .int x0)] (by decide) rfl dX9_framesOf_1 (fun ls hl => ?_)
  refine lv_iconst (v := 2) C.1 C.2.1 dX9_framesOf_2 (by decide) ?_
  refine r_istore0 C hl [(2, .int 2), (1, .int 1), (0, .int x0)] (by decide) rfl dX9_framesOf_3 (fun ls hl => ?_)
  exact hL_4  FU 1 2 hf _ _ hw _ (lv_sub hl [2, 1, 0] rfl)
set_option maxHeartbeats 4000000 in
set_option maxRecDepth 100000 in
theorem c_X9_slotsOf (l : Launch) (G : GG)  (sz : Nat)  (x0 : Int32) (out : Int32) (hf : f_X9_slotsOf x0 = some out) : Met l yX9_slotsOf (.code yX9_slotsOf cX9_slotsOf 1 (some .int) :: BT) ({ frames := 1, cells := 0, slots := 0, locals := 22 }) (va_Pc [.int x0] (PreW G sz [])) (Ans G out (va_A [] sz) []) 0 0 (va_A [] sz) := by
  refine Met.into (by decide) (Nat.le_of_ble_eq_true rfl) ?_
  intro p e s m below meth c C hsz ls hl hw
  have hl : lv_has ls 1 [(0, .int x0)] := hl
  clear hsz
  generalize va_A [] sz = A at hw ⊢
  unfold f_X9_slotsOf at hf
  refine lv_bipush (v := 16) C.1 C.2.1 dX9_slotsOf_0 (by decide) ?_
  refine r_iload0 C hl 0 rfl dX9_slotsOf_2 ?_
  obtain ⟨u1, e1, hf⟩ := bx hf
  refine r_callSi (ws' := []) (As := [.int x0]) (rest := [.int 16]) C hw hl.1 kX9_framesOf ml_X9_286 (c_X9_framesOf l G _ x0 u1 e1) CutX.none ⟨rfl, rfl⟩ ⟨Nat.le_of_ble_eq_true rfl, Nat.le_of_ble_eq_true rfl⟩ rfl ⟨Nat.zero_le _, Nat.zero_le _⟩ rfl (Nat.le_of_ble_eq_true rfl) dX9_slotsOf_3 (fun H locs hw => ?_)
  refine lv_imul C.1 C.2.1 dX9_slotsOf_6 ?_
  refine r_iload0 C hl 0 rfl dX9_slotsOf_7 ?_
  obtain ⟨v2_, e2, hf⟩ := bx hf
  refine r_idiv C e2 dX9_slotsOf_8 ?_
  exact fin_i C hw (Option.some.inj hf) (fun o => o) (fun o => []) rfl rfl dX9_slotsOf_9
set_option maxHeartbeats 4000000 in
set_option maxRecDepth 100000 in
theorem c_X9_home (l : Launch) (G : GG) (ad : Nat → Nat) (sz : Nat) (d_ad : Pic) (dw : Int64) (x1 : Int32) (out : Int32 × Pic) (hf : f_X9_home d_ad x1 = some out) : Met l yX9_home (.code yX9_home cX9_home 2 (some .int) :: BT) ({ frames := 1, cells := 0, slots := 0, locals := 22 }) (va_Pc [.ref (ad 99), .int x1] (PreW G sz (dO G ad d_ad dw ++ []))) (Ans G out.1 (va_A (dO G ad d_ad dw ++ []) sz) (dO G ad out.2 dw ++ [])) 0 0 (va_A (dO G ad d_ad dw ++ []) sz) := by
  refine Met.into (by decide) (Nat.le_of_ble_eq_true rfl) ?_
  intro p e s m below meth c C hsz ls hl hw
  have hl : lv_has ls 2 [(0, .ref (ad 99)), (1, .int x1)] := hl
  clear hsz
  generalize va_A (dO G ad d_ad dw ++ []) sz = A at hw ⊢
  unfold f_X9_home at hf
  refine r_aload0 C hl 0 rfl dX9_home_0 ?_
  refine lv_iconst (v := 0) C.1 C.2.1 dX9_home_1 (by decide) ?_
  obtain ⟨d_ad1, e1, hf⟩ := bx hf
  refine r_put C hw _ (gx_h dO_o) 0 fp_X9_75 rfl rfl (Nat.le_of_ble_eq_true rfl) (dO G ad d_ad1 dw ++ []) (sx_h dO_o (dO_p0 e1)) dX9_home_2 (fun H locs hw => ?_)
  refine r_aload0 C hl 0 rfl dX9_home_5 ?_
  refine r_get C hw _ (gx_h dO_o) 19 fl_X9_225 rfl dX9_home_6 ?_
  refine lv_if_ne (tgt := 18) C.1 C.2.1 dX9_home_9 (by decide) (fun hc => ?_) (fun hc => ?_)
  · replace hf := ifn hf hc
    refine r_iload0 C hl 1 rfl dX9_home_18 ?_
    refine lv_iconst (v := 2) C.1 C.2.1 dX9_home_19 (by decide) ?_
    refine lv_bipush (v := 15) C.1 C.2.1 dX9_home_20 (by decide) ?_
    obtain ⟨u2, e2, hf⟩ := bx hf
    refine r_callSi (ws' := (dO G ad d_ad1 dw ++ [])) (As := [.int x1, .int 2, .int 15]) (rest := []) C hw hl.1 kX9_in ml_X9_100 (c_X9_in l G _ x1 2 15 u2 e2) CutX.none ⟨rfl, rfl⟩ ⟨Nat.le_of_ble_eq_true rfl, Nat.le_of_ble_eq_true rfl⟩ rfl ⟨Nat.zero_le _, Nat.zero_le _⟩ rfl (Nat.le_of_ble_eq_true rfl) dX9_home_22 (fun H locs hw => ?_)
    refine lv_if_eq (tgt := 43) C.1 C.2.1 dX9_home_25 (by decide) (fun hc => ?_) (fun hc => ?_)
    · replace hf := ifp hf hc
      refine r_aload0 C hl 0 rfl dX9_home_43 ?_
      refine lv_iconst (v := 2) C.1 C.2.1 dX9_home_44 (by decide) ?_
      obtain ⟨u3, e3, hf⟩ := bx hf
      refine r_callVi (ws' := (dO G ad u3.2 dw ++ [])) (As := [.int 2]) (rest := []) C hw hl.1 kX9_refused ml_X9_210 (c_X9_refused l G ad _ d_ad1 dw 2 u3 e3) (CutX.take dO_f CutX.none) _ (gx_h dO_o) rfl ⟨rfl, rfl⟩ ⟨Nat.le_of_ble_eq_true rfl, Nat.le_of_ble_eq_true rfl⟩ rfl ⟨Nat.zero_le _, Nat.zero_le _⟩ rfl (Nat.le_of_ble_eq_true rfl) dX9_home_45 (fun H locs hw => ?_)
      exact fin_i C hw (Option.some.inj hf) (fun o => o.1) (fun o => (dO G ad o.2 dw ++ [])) rfl rfl dX9_home_48
    · replace hf := ifn hf hc
      refine r_aload0 C hl 0 rfl dX9_home_28 ?_
      refine r_iload0 C hl 1 rfl dX9_home_29 ?_
      refine r_aload0 C hl 0 rfl dX9_home_30 ?_
      refine r_get C hw _ (gx_h dO_o) 3 fl_X9_229 rfl dX9_home_31 ?_
      obtain ⟨u4, e4, hf⟩ := bx hf
      refine r_callSi (ws' := (dO G ad d_ad1 dw ++ [])) (As := [.int x1, .int (gS d_ad1 3)]) (rest := [.ref (ad 99)]) C hw hl.1 kX9_homeOf ml_X9_289 (c_X9_homeOf l G _ x1 (gS d_ad1 3) u4 e4) CutX.none ⟨rfl, rfl⟩ ⟨Nat.le_of_ble_eq_true rfl, Nat.le_of_ble_eq_true rfl⟩ rfl ⟨Nat.zero_le _, Nat.zero_le _⟩ rfl (Nat.le_of_ble_eq_true rfl) dX9_home_34 (fun H locs hw => ?_)
      obtain ⟨u5, e5, hf⟩ := bx hf
      refine r_callVi (ws' := (dO G ad u5.2 dw ++ [])) (As := [.int u4]) (rest := []) C hw hl.1 kX9_good ml_X9_222 (c_X9_good l G ad _ d_ad1 dw u4 u5 e5) (CutX.take dO_f CutX.none) _ (gx_h dO_o) rfl ⟨rfl, rfl⟩ ⟨Nat.le_of_ble_eq_true rfl, Nat.le_of_ble_eq_true rfl⟩ rfl ⟨Nat.zero_le _, Nat.zero_le _⟩ rfl (Nat.le_of_ble_eq_true rfl) dX9_home_37 (fun H locs hw => ?_)
      refine lv_goto (tgt := 48) C.1 C.2.1 dX9_home_40 (by decide) ?_
      exact fin_i C hw (Option.some.inj hf) (fun o => o.1) (fun o => (dO G ad o.2 dw ++ [])) rfl rfl dX9_home_48
  · replace hf := ifp hf hc
    refine r_aload0 C hl 0 rfl dX9_home_12 ?_
    refine lv_iconst (v := 1) C.1 C.2.1 dX9_home_13 (by decide) ?_
    obtain ⟨u6, e6, hf⟩ := bx hf
    refine r_callVi (ws' := (dO G ad u6.2 dw ++ [])) (As := [.int 1]) (rest := []) C hw hl.1 kX9_refused ml_X9_210 (c_X9_refused l G ad _ d_ad1 dw 1 u6 e6) (CutX.take dO_f CutX.none) _ (gx_h dO_o) rfl ⟨rfl, rfl⟩ ⟨Nat.le_of_ble_eq_true rfl, Nat.le_of_ble_eq_true rfl⟩ rfl ⟨Nat.zero_le _, Nat.zero_le _⟩ rfl (Nat.le_of_ble_eq_true rfl) dX9_home_14 (fun H locs hw => ?_)
    exact fin_i C hw (Option.some.inj hf) (fun o => o.1) (fun o => (dO G ad o.2 dw ++ [])) rfl rfl dX9_home_17
set_option maxHeartbeats 4000000 in
set_option maxRecDepth 100000 in
theorem c_X9_isClass (l : Launch) (G : GG) (ad : Nat → Nat) (sz : Nat) (d_ad : Pic) (dw : Int64) (x1 : Int32) (out : Int32) (hf : f_X9_isClass d_ad x1 = some out) : Met l yX9_isClass (.code yX9_isClass cX9_isClass 2 (some .boolean) :: BT) ({ frames := 1, cells := 0, slots := 0, locals := 22 }) (va_Pc [.ref (ad 99), .int x1] (PreW G sz (dO G ad d_ad dw ++ []))) (Ans G out (va_A (dO G ad d_ad dw ++ []) sz) (dO G ad d_ad dw ++ [])) 0 0 (va_A (dO G ad d_ad dw ++ []) sz) := by
  refine Met.into (by decide) (Nat.le_of_ble_eq_true rfl) ?_
  intro p e s m below meth c C hsz ls hl hw
  have hl : lv_has ls 2 [(0, .ref (ad 99)), (1, .int x1)] := hl
  clear hsz
  generalize va_A (dO G ad d_ad dw ++ []) sz = A at hw ⊢
  unfold f_X9_isClass at hf
  refine r_aload0 C hl 0 rfl dX9_isClass_0 ?_
  refine r_get C hw _ (gx_h dO_o) 19 fl_X9_225 rfl dX9_isClass_1 ?_
  refine lv_if_eq (tgt := 30) C.1 C.2.1 dX9_isClass_4 (by decide) (fun hc => ?_) (fun hc => ?_)
  · replace hf := ifp hf hc
    refine lv_iconst (v := 0) C.1 C.2.1 dX9_isClass_30 (by decide) ?_
    exact fin_z C hw (by decide) (Option.some.inj hf) (fun o => o) (fun o => (dO G ad d_ad dw ++ [])) rfl rfl dX9_isClass_31
  · replace hf := ifn hf hc
    refine r_iload0 C hl 1 rfl dX9_isClass_7 ?_
    refine lv_iconst (v := 1) C.1 C.2.1 dX9_isClass_8 (by decide) ?_
    refine lv_bipush (v := 16) C.1 C.2.1 dX9_isClass_9 (by decide) ?_
    obtain ⟨u1, e1, hf⟩ := bx hf
    refine r_callSi (ws' := (dO G ad d_ad dw ++ [])) (As := [.int x1, .int 1, .int 16]) (rest := []) C hw hl.1 kX9_in ml_X9_100 (c_X9_in l G _ x1 1 16 u1 e1) CutX.none ⟨rfl, rfl⟩ ⟨Nat.le_of_ble_eq_true rfl, Nat.le_of_ble_eq_true rfl⟩ rfl ⟨Nat.zero_le _, Nat.zero_le _⟩ rfl (Nat.le_of_ble_eq_true rfl) dX9_isClass_11 (fun H locs hw => ?_)
    refine lv_if_eq (tgt := 30) C.1 C.2.1 dX9_isClass_14 (by decide) (fun hc => ?_) (fun hc => ?_)
    · replace hf := ifp hf hc
      refine lv_iconst (v := 0) C.1 C.2.1 dX9_isClass_30 (by decide) ?_
      exact fin_z C hw (by decide) (Option.some.inj hf) (fun o => o) (fun o => (dO G ad d_ad dw ++ [])) rfl rfl dX9_isClass_31
    · replace hf := ifn hf hc
      refine r_iload0 C hl 1 rfl dX9_isClass_17 ?_
      refine r_aload0 C hl 0 rfl dX9_isClass_18 ?_
      refine r_get C hw _ (gx_h dO_o) 3 fl_X9_229 rfl dX9_isClass_19 ?_
      obtain ⟨v2_, e2, hf⟩ := bx hf
      refine r_irem C e2 dX9_isClass_22 ?_
      refine lv_if_ne (tgt := 30) C.1 C.2.1 dX9_isClass_23 (by decide) (fun hc => ?_) (fun hc => ?_)
      · replace hf := ifn hf hc
        refine lv_iconst (v := 0) C.1 C.2.1 dX9_isClass_30 (by decide) ?_
        exact fin_z C hw (by decide) (Option.some.inj hf) (fun o => o) (fun o => (dO G ad d_ad dw ++ [])) rfl rfl dX9_isClass_31
      · replace hf := ifp hf hc
        refine lv_iconst (v := 1) C.1 C.2.1 dX9_isClass_26 (by decide) ?_
        refine lv_goto (tgt := 31) C.1 C.2.1 dX9_isClass_27 (by decide) ?_
        exact fin_z C hw (by decide) (Option.some.inj hf) (fun o => o) (fun o => (dO G ad d_ad dw ++ [])) rfl rfl dX9_isClass_31
set_option maxHeartbeats 4000000 in
set_option maxRecDepth 100000 in
theorem c_X9_isZone (l : Launch) (G : GG) (ad : Nat → Nat) (sz : Nat) (d_ad : Pic) (dw : Int64) (x1 : Int32) (out : Int32) (hf : f_X9_isZone d_ad x1 = some out) : Met l yX9_isZone (.code yX9_isZone cX9_isZone 2 (some .boolean) :: BT) ({ frames := 1, cells := 0, slots := 0, locals := 22 }) (va_Pc [.ref (ad 99), .int x1] (PreW G sz (dO G ad d_ad dw ++ []))) (Ans G out (va_A (dO G ad d_ad dw ++ []) sz) (dO G ad d_ad dw ++ [])) 0 0 (va_A (dO G ad d_ad dw ++ []) sz) := by
  refine Met.into (by decide) (Nat.le_of_ble_eq_true rfl) ?_
  intro p e s m below meth c C hsz ls hl hw
  have hl : lv_has ls 2 [(0, .ref (ad 99)), (1, .int x1)] := hl
  clear hsz
  generalize va_A (dO G ad d_ad dw ++ []) sz = A at hw ⊢
  unfold f_X9_isZone at hf
  refine r_aload0 C hl 0 rfl dX9_isZone_0 ?_
  refine r_get C hw _ (gx_h dO_o) 19 fl_X9_225 rfl dX9_isZone_1 ?_
  refine lv_if_eq (tgt := 34) C.1 C.2.1 dX9_isZone_4 (by decide) (fun hc => ?_) (fun hc => ?_)
  · replace hf := ifp hf hc
    refine lv_iconst (v := 0) C.1 C.2.1 dX9_isZone_34 (by decide) ?_
    exact fin_z C hw (by decide) (Option.some.inj hf) (fun o => o) (fun o => (dO G ad d_ad dw ++ [])) rfl rfl dX9_isZone_35
  · replace hf := ifn hf hc
    refine r_iload0 C hl 1 rfl dX9_isZone_7 ?_
    refine lv_iconst (v := 0) C.1 C.2.1 dX9_isZone_8 (by decide) ?_
    refine lv_bipush (v := 23) C.1 C.2.1 dX9_isZone_9 (by decide) ?_
    obtain ⟨u1, e1, hf⟩ := bx hf
    refine r_callSi (ws' := (dO G ad d_ad dw ++ [])) (As := [.int x1, .int 0, .int 23]) (rest := []) C hw hl.1 kX9_in ml_X9_100 (c_X9_in l G _ x1 0 23 u1 e1) CutX.none ⟨rfl, rfl⟩ ⟨Nat.le_of_ble_eq_true rfl, Nat.le_of_ble_eq_true rfl⟩ rfl ⟨Nat.zero_le _, Nat.zero_le _⟩ rfl (Nat.le_of_ble_eq_true rfl) dX9_isZone_11 (fun H locs hw => ?_)
    refine lv_if_eq (tgt := 34) C.1 C.2.1 dX9_isZone_14 (by decide) (fun hc => ?_) (fun hc => ?_)
    · replace hf := ifp hf hc
      refine lv_iconst (v := 0) C.1 C.2.1 dX9_isZone_34 (by decide) ?_
      exact fin_z C hw (by decide) (Option.some.inj hf) (fun o => o) (fun o => (dO G ad d_ad dw ++ [])) rfl rfl dX9_isZone_35
    · replace hf := ifn hf hc
      refine r_aload0 C hl 0 rfl dX9_isZone_17 ?_
      refine r_get C hw _ (gx_h dO_o) 20 fl_X9_35 rfl dX9_isZone_18 ?_
      refine lv_sipush (v := 796) C.1 C.2.1 dX9_isZone_21 (by decide) ?_
      refine r_iload0 C hl 1 rfl dX9_isZone_24 ?_
      refine lv_iadd C.1 C.2.1 dX9_isZone_25 ?_
      obtain ⟨v2_, e2, hf⟩ := bx hf
      refine r_iald C hw _ (gx_h dO_g20) e2 dX9_isZone_26 ?_
      refine lv_if_le (tgt := 34) C.1 C.2.1 dX9_isZone_27 (by decide) (fun hc => ?_) (fun hc => ?_)
      · replace hf := ifp hf hc
        refine lv_iconst (v := 0) C.1 C.2.1 dX9_isZone_34 (by decide) ?_
        exact fin_z C hw (by decide) (Option.some.inj hf) (fun o => o) (fun o => (dO G ad d_ad dw ++ [])) rfl rfl dX9_isZone_35
      · replace hf := ifn hf hc
        refine lv_iconst (v := 1) C.1 C.2.1 dX9_isZone_30 (by decide) ?_
        refine lv_goto (tgt := 35) C.1 C.2.1 dX9_isZone_31 (by decide) ?_
        exact fin_z C hw (by decide) (Option.some.inj hf) (fun o => o) (fun o => (dO G ad d_ad dw ++ [])) rfl rfl dX9_isZone_35
set_option maxHeartbeats 4000000 in
set_option maxRecDepth 100000 in
theorem c_X9_classOf (l : Launch) (G : GG) (ad : Nat → Nat) (sz : Nat) (d_ad : Pic) (dw : Int64) (x1 : Int32) (out : Int32) (hf : f_X9_classOf d_ad x1 = some out) : Met l yX9_classOf (.code yX9_classOf cX9_classOf 2 (some .int) :: BT) ({ frames := 0, cells := 0, slots := 0, locals := 0 }) (va_Pc [.ref (ad 99), .int x1] (PreW G sz (dO G ad d_ad dw ++ []))) (Ans G out (va_A (dO G ad d_ad dw ++ []) sz) (dO G ad d_ad dw ++ [])) 0 0 (va_A (dO G ad d_ad dw ++ []) sz) := by
  refine Met.into (by decide) (Nat.le_of_ble_eq_true rfl) ?_
  intro p e s m below meth c C hsz ls hl hw
  have hl : lv_has ls 2 [(0, .ref (ad 99)), (1, .int x1)] := hl
  clear hsz
  generalize va_A (dO G ad d_ad dw ++ []) sz = A at hw ⊢
  unfold f_X9_classOf at hf
  refine r_aload0 C hl 0 rfl dX9_classOf_0 ?_
  refine r_get C hw _ (gx_h dO_o) 20 fl_X9_35 rfl dX9_classOf_1 ?_
  refine lv_sipush (v := 796) C.1 C.2.1 dX9_classOf_4 (by decide) ?_
  refine r_iload0 C hl 1 rfl dX9_classOf_7 ?_
  refine lv_iadd C.1 C.2.1 dX9_classOf_8 ?_
  obtain ⟨v1_, e1, hf⟩ := bx hf
  refine r_iald C hw _ (gx_h dO_g20) e1 dX9_classOf_9 ?_
  exact fin_i C hw (Option.some.inj hf) (fun o => o) (fun o => (dO G ad d_ad dw ++ [])) rfl rfl dX9_classOf_10
set_option maxHeartbeats 4000000 in
set_option maxRecDepth 100000 in
theorem c_X9_slotAt (l : Launch) (G : GG)  (sz : Nat)  (x0 x1 : Int32) (out : Int32) (hf : f_X9_slotAt x0 x1 = some out) : Met l yX9_slotAt (.code yX9_slotAt cX9_slotAt 2 (some .int) :: BT) ({ frames := 0, cells := 0, slots := 0, locals := 0 }) (va_Pc [.int x0, .int x1] (PreW G sz [])) (Ans G out (va_A [] sz) []) 0 0 (va_A [] sz) := by
  refine Met.into (by decide) (Nat.le_of_ble_eq_true rfl) ?_
  intro p e s m below meth c C hsz ls hl hw
  have hl : lv_has ls 2 [(0, .int x0), (1, .int x1)] := hl
  clear hsz
  generalize va_A [] sz = A at hw ⊢
  unfold f_X9_slotAt at hf
  refine lv_sipush (v := 820) C.1 C.2.1 dX9_slotAt_0 (by decide) ?_
  refine lv_bipush (v := 16) C.1 C.2.1 dX9_slotAt_3 (by decide) ?_
  refine r_iload0 C hl 0 rfl dX9_slotAt_5 ?_
  refine lv_imul C.1 C.2.1 dX9_slotAt_6 ?_
  refine lv_iadd C.1 C.2.1 dX9_slotAt_7 ?_
  refine r_iload0 C hl 1 rfl dX9_slotAt_8 ?_
  refine lv_iadd C.1 C.2.1 dX9_slotAt_9 ?_
  exact fin_i C hw (Option.some.inj hf) (fun o => o) (fun o => []) rfl rfl dX9_slotAt_10
set_option maxHeartbeats 4000000 in
set_option maxRecDepth 100000 in
theorem c_X9_fillOf (l : Launch) (G : GG) (ad : Nat → Nat) (sz : Nat) (d_ad : Pic) (dw : Int64) (x1 : Int32) (out : Int32) (hf : f_X9_fillOf d_ad x1 = some out) : Met l yX9_fillOf (.code yX9_fillOf cX9_fillOf 4 (some .int) :: BT) ({ frames := 1, cells := 0, slots := 0, locals := 21 }) (va_Pc [.ref (ad 99), .int x1] (PreW G sz (dO G ad d_ad dw ++ []))) (Ans G out (va_A (dO G ad d_ad dw ++ []) sz) (dO G ad d_ad dw ++ [])) 0 0 (va_A (dO G ad d_ad dw ++ []) sz) := by
  refine Met.into (by decide) (Nat.le_of_ble_eq_true rfl) ?_
  intro p e s m below meth c C hsz ls hl hw
  have hl : lv_has ls 4 [(0, .ref (ad 99)), (1, .int x1)] := hl
  clear hsz
  generalize va_A (dO G ad d_ad dw ++ []) sz = A at hw ⊢
  have hB_4 : ∀ (k4 : Int32 → Int32 → Option (Int32)) (hk4 : ∀ (v2 : Int32) (v3 : Int32), k4 v2 v3 = some out → ∀ (H : Heap) (locs : List Loc), Wd G A s H locs (dO G ad d_ad dw ++ []) → ∀ ls : Array Slot, lv_has ls 4 [(0, .ref (ad 99)), (1, .int x1), (2, .int v2), (3, .int v3)] → W p l e ({ frames := 1, cells := 0, slots := 0, locals := 21 }) s m [.ref (ad 99), .int x1].toArray below meth c H locs 0 0 (MQ below (Ans G out A (dO G ad d_ad dw ++ [])) [.ref (ad 99), .int x1].toArray s 0 0 A) (F0 m 4 ls [])), ∀ (v2 : Int32) (v3 : Int32), b_X9_fillOf_4 d_ad x1 k4 v2 v3 = some out → ∀ (H : Heap) (locs : List Loc), Wd G A s H locs (dO G ad d_ad dw ++ []) → ∀ ls : Array Slot, lv_has ls 4 [(0, .ref (ad 99)), (1, .int x1), (2, .int v2), (3, .int v3)] → W p l e ({ frames := 1, cells := 0, slots := 0, locals := 21 }) s m [.ref (ad 99), .int x1].toArray below meth c H locs 0 0 (MQ below (Ans G out A (dO G ad d_ad dw ++ [])) [.ref (ad 99), .int x1].toArray s 0 0 A) (F0 m 4 ls []) := by
    intro k4 hk4 v2 v3 hf H locs hw ls hl
    unfold b_X9_fillOf_4 at hf
    refine r_iload0 C hl 3 rfl dX9_fillOf_4 ?_
    refine lv_bipush (v := 16) C.1 C.2.1 dX9_fillOf_5 (by decide) ?_
    refine lv_icmp_ge (tgt := 37) C.1 C.2.1 dX9_fillOf_7 (by decide) (fun hc => ?_) (fun hc => ?_)
    · replace hf := ifp hf hc
      refine r_iload0 C hl 2 rfl dX9_fillOf_37 ?_
      exact fin_i C hw (Option.some.inj hf) (fun o => o) (fun o => (dO G ad d_ad dw ++ [])) rfl rfl dX9_fillOf_38
    · replace hf := ifn hf hc
      refine r_iload0 C hl 2 rfl dX9_fillOf_10 ?_
      refine r_aload0 C hl 0 rfl dX9_fillOf_11 ?_
      refine r_get C hw _ (gx_h dO_o) 20 fl_X9_35 rfl dX9_fillOf_12 ?_
      refine r_iload0 C hl 1 rfl dX9_fillOf_15 ?_
      refine r_iload0 C hl 3 rfl dX9_fillOf_16 ?_
      obtain ⟨u1, e1, hf⟩ := bx hf
      refine r_callSi (ws' := (dO G ad d_ad dw ++ [])) (As := [.int x1, .int v3]) (rest := [.ref (ad 20), .int v2]) C hw hl.1 kX9_slotAt ml_X9_304 (c_X9_slotAt l G _ x1 v3 u1 e1) CutX.none ⟨rfl, rfl⟩ ⟨Nat.le_of_ble_eq_true rfl, Nat.le_of_ble_eq_true rfl⟩ rfl ⟨Nat.zero_le _, Nat.zero_le _⟩ rfl (Nat.le_of_ble_eq_true rfl) dX9_fillOf_17 (fun H locs hw => ?_)
      obtain ⟨v2_, e2, hf⟩ := bx hf
      refine r_iald C hw _ (gx_h dO_g20) e2 dX9_fillOf_20 ?_
      refine lv_if_le (tgt := 28) C.1 C.2.1 dX9_fillOf_21 (by decide) (fun hc => ?_) (fun hc => ?_)
      · replace hf := ifp hf hc
        refine lv_iconst (v := 0) C.1 C.2.1 dX9_fillOf_28 (by decide) ?_
        refine lv_iadd C.1 C.2.1 dX9_fillOf_29 ?_
        refine r_istore0 C hl [(2, .int (v2 + 0)), (0, .ref (ad 99)), (1, .int x1), (3, .int v3)] (by decide) rfl dX9_fillOf_30 (fun ls hl => ?_)
        refine r_iinc C hl 3 (v3 + 1) [(3, .int (v3 + 1)), (2, .int (v2 + 0)), (0, .ref (ad 99)), (1, .int x1)] rfl (iinc_e (by decide)) (by decide) rfl dX9_fillOf_31 (fun ls hl => ?_)
        refine lv_goto (tgt := 4) C.1 C.2.1 dX9_fillOf_34 (by decide) ?_
        exact hk4 (v2 + 0) (v3 + 1) hf _ _ hw _ (lv_sub hl [2, 3, 1, 0] rfl)
      · replace hf := ifn hf hc
        refine lv_iconst (v := 1) C.1 C.2.1 dX9_fillOf_24 (by decide) ?_
        refine lv_goto (tgt := 29) C.1 C.2.1 dX9_fillOf_25 (by decide) ?_
        refine lv_iadd C.1 C.2.1 dX9_fillOf_29 ?_
        refine r_istore0 C hl [(2, .int (v2 + 1)), (0, .ref (ad 99)), (1, .int x1), (3, .int v3)] (by decide) rfl dX9_fillOf_30 (fun ls hl => ?_)
        refine r_iinc C hl 3 (v3 + 1) [(3, .int (v3 + 1)), (2, .int (v2 + 1)), (0, .ref (ad 99)), (1, .int x1)] rfl (iinc_e (by decide)) (by decide) rfl dX9_fillOf_31 (fun ls hl => ?_)
        refine lv_goto (tgt := 4) C.1 C.2.1 dX9_fillOf_34 (by decide) ?_
        exact hk4 (v2 + 1) (v3 + 1) hf _ _ hw _ (lv_sub hl [2, 3, 1, 0] rfl)
  have hL_4 : ∀ n : Nat, ∀ (v2 : Int32) (v3 : Int32), L_X9_fillOf_4 d_ad x1  n v2 v3 = some out → ∀ (H : Heap) (locs : List Loc), Wd G A s H locs (dO G ad d_ad dw ++ []) → ∀ ls : Array Slot, lv_has ls 4 [(0, .ref (ad 99)), (1, .int x1), (2, .int v2), (3, .int v3)] → W p l e ({ frames := 1, cells := 0, slots := 0, locals := 21 }) s m [.ref (ad 99), .int x1].toArray below meth c H locs 0 0 (MQ below (Ans G out A (dO G ad d_ad dw ++ [])) [.ref (ad 99), .int x1].toArray s 0 0 A) (F0 m 4 ls []) := by
    intro  n
    induction n with
    | zero => intro v2 v3 hf; cases hf
    | succ n ih => exact hB_4 _ ih
  unfold f_X9_fillOf at hf
  refine lv_iconst (v := 0) C.1 C.2.1 dX9_fillOf_0 (by decide) ?_
  refine r_istore0 C hl [(2, .int 0), (0, .ref (ad 99)), (1, .int x1)] (by decide) rfl dX9_fillOf_1 (fun ls hl => ?_)
  refine lv_iconst (v := 0) C.1 C.2.1 dX9_fillOf_2 (by decide) ?_
  refine r_istore0 C hl [(3, .int 0), (2, .int 0), (0, .ref (ad 99)), (1, .int x1)] (by decide) rfl dX9_fillOf_3 (fun ls hl => ?_)
  exact hL_4  FU 0 0 hf _ _ hw _ (lv_sub hl [2, 3, 1, 0] rfl)
set_option maxHeartbeats 4000000 in
set_option maxRecDepth 100000 in
theorem c_X9_isFull (l : Launch) (G : GG) (ad : Nat → Nat) (sz : Nat) (d_ad : Pic) (dw : Int64) (x1 : Int32) (out : Int32) (hf : f_X9_isFull d_ad x1 = some out) : Met l yX9_isFull (.code yX9_isFull cX9_isFull 2 (some .boolean) :: BT) ({ frames := 2, cells := 0, slots := 0, locals := 44 }) (va_Pc [.ref (ad 99), .int x1] (PreW G sz (dO G ad d_ad dw ++ []))) (Ans G out (va_A (dO G ad d_ad dw ++ []) sz) (dO G ad d_ad dw ++ [])) 0 0 (va_A (dO G ad d_ad dw ++ []) sz) := by
  refine Met.into (by decide) (Nat.le_of_ble_eq_true rfl) ?_
  intro p e s m below meth c C hsz ls hl hw
  have hl : lv_has ls 2 [(0, .ref (ad 99)), (1, .int x1)] := hl
  clear hsz
  generalize va_A (dO G ad d_ad dw ++ []) sz = A at hw ⊢
  unfold f_X9_isFull at hf
  refine r_aload0 C hl 0 rfl dX9_isFull_0 ?_
  refine r_iload0 C hl 1 rfl dX9_isFull_1 ?_
  obtain ⟨u1, e1, hf⟩ := bx hf
  refine r_callVi (ws' := (dO G ad d_ad dw ++ [])) (As := [.int x1]) (rest := []) C hw hl.1 kX9_fillOf ml_X9_307 (c_X9_fillOf l G ad _ d_ad dw x1 u1 e1) (CutX.take dO_f CutX.none) _ (gx_h dO_o) rfl ⟨rfl, rfl⟩ ⟨Nat.le_of_ble_eq_true rfl, Nat.le_of_ble_eq_true rfl⟩ rfl ⟨Nat.zero_le _, Nat.zero_le _⟩ rfl (Nat.le_of_ble_eq_true rfl) dX9_isFull_2 (fun H locs hw => ?_)
  refine r_aload0 C hl 0 rfl dX9_isFull_5 ?_
  refine r_iload0 C hl 1 rfl dX9_isFull_6 ?_
  obtain ⟨u2, e2, hf⟩ := bx hf
  refine r_callVi (ws' := (dO G ad d_ad dw ++ [])) (As := [.int x1]) (rest := [.int u1]) C hw hl.1 kX9_classOf ml_X9_310 (c_X9_classOf l G ad _ d_ad dw x1 u2 e2) (CutX.take dO_f CutX.none) _ (gx_h dO_o) rfl ⟨rfl, rfl⟩ ⟨Nat.le_of_ble_eq_true rfl, Nat.le_of_ble_eq_true rfl⟩ rfl ⟨Nat.zero_le _, Nat.zero_le _⟩ rfl (Nat.le_of_ble_eq_true rfl) dX9_isFull_7 (fun H locs hw => ?_)
  obtain ⟨u3, e3, hf⟩ := bx hf
  refine r_callSi (ws' := (dO G ad d_ad dw ++ [])) (As := [.int u2]) (rest := [.int u1]) C hw hl.1 kX9_slotsOf ml_X9_295 (c_X9_slotsOf l G _ u2 u3 e3) CutX.none ⟨rfl, rfl⟩ ⟨Nat.le_of_ble_eq_true rfl, Nat.le_of_ble_eq_true rfl⟩ rfl ⟨Nat.zero_le _, Nat.zero_le _⟩ rfl (Nat.le_of_ble_eq_true rfl) dX9_isFull_10 (fun H locs hw => ?_)
  refine lv_icmp_ne (tgt := 20) C.1 C.2.1 dX9_isFull_13 (by decide) (fun hc => ?_) (fun hc => ?_)
  · replace hf := ifn hf hc
    refine lv_iconst (v := 0) C.1 C.2.1 dX9_isFull_20 (by decide) ?_
    exact fin_z C hw (by decide) (Option.some.inj hf) (fun o => o) (fun o => (dO G ad d_ad dw ++ [])) rfl rfl dX9_isFull_21
  · replace hf := ifp hf hc
    refine lv_iconst (v := 1) C.1 C.2.1 dX9_isFull_16 (by decide) ?_
    refine lv_goto (tgt := 21) C.1 C.2.1 dX9_isFull_17 (by decide) ?_
    exact fin_z C hw (by decide) (Option.some.inj hf) (fun o => o) (fun o => (dO G ad d_ad dw ++ [])) rfl rfl dX9_isFull_21
set_option maxHeartbeats 4000000 in
set_option maxRecDepth 100000 in
theorem c_X9_zonesOf (l : Launch) (G : GG) (ad : Nat → Nat) (sz : Nat) (d_ad : Pic) (dw : Int64) (x1 : Int32) (out : Int32) (hf : f_X9_zonesOf d_ad x1 = some out) : Met l yX9_zonesOf (.code yX9_zonesOf cX9_zonesOf 4 (some .int) :: BT) ({ frames := 1, cells := 0, slots := 0, locals := 21 }) (va_Pc [.ref (ad 99), .int x1] (PreW G sz (dO G ad d_ad dw ++ []))) (Ans G out (va_A (dO G ad d_ad dw ++ []) sz) (dO G ad d_ad dw ++ [])) 0 0 (va_A (dO G ad d_ad dw ++ []) sz) := by
  refine Met.into (by decide) (Nat.le_of_ble_eq_true rfl) ?_
  intro p e s m below meth c C hsz ls hl hw
  have hl : lv_has ls 4 [(0, .ref (ad 99)), (1, .int x1)] := hl
  clear hsz
  generalize va_A (dO G ad d_ad dw ++ []) sz = A at hw ⊢
  have hB_4 : ∀ (k4 : Int32 → Int32 → Option (Int32)) (hk4 : ∀ (v2 : Int32) (v3 : Int32), k4 v2 v3 = some out → ∀ (H : Heap) (locs : List Loc), Wd G A s H locs (dO G ad d_ad dw ++ []) → ∀ ls : Array Slot, lv_has ls 4 [(0, .ref (ad 99)), (1, .int x1), (2, .int v2), (3, .int v3)] → W p l e ({ frames := 1, cells := 0, slots := 0, locals := 21 }) s m [.ref (ad 99), .int x1].toArray below meth c H locs 0 0 (MQ below (Ans G out A (dO G ad d_ad dw ++ [])) [.ref (ad 99), .int x1].toArray s 0 0 A) (F0 m 4 ls [])), ∀ (v2 : Int32) (v3 : Int32), b_X9_zonesOf_4 d_ad x1 k4 v2 v3 = some out → ∀ (H : Heap) (locs : List Loc), Wd G A s H locs (dO G ad d_ad dw ++ []) → ∀ ls : Array Slot, lv_has ls 4 [(0, .ref (ad 99)), (1, .int x1), (2, .int v2), (3, .int v3)] → W p l e ({ frames := 1, cells := 0, slots := 0, locals := 21 }) s m [.ref (ad 99), .int x1].toArray below meth c H locs 0 0 (MQ below (Ans G out A (dO G ad d_ad dw ++ [])) [.ref (ad 99), .int x1].toArray s 0 0 A) (F0 m 4 ls []) := by
    intro k4 hk4 v2 v3 hf H locs hw ls hl
    unfold b_X9_zonesOf_4 at hf
    refine r_iload0 C hl 3 rfl dX9_zonesOf_4 ?_
    refine lv_bipush (v := 24) C.1 C.2.1 dX9_zonesOf_5 (by decide) ?_
    refine lv_icmp_ge (tgt := 33) C.1 C.2.1 dX9_zonesOf_7 (by decide) (fun hc => ?_) (fun hc => ?_)
    · replace hf := ifp hf hc
      refine r_iload0 C hl 2 rfl dX9_zonesOf_33 ?_
      exact fin_i C hw (Option.some.inj hf) (fun o => o) (fun o => (dO G ad d_ad dw ++ [])) rfl rfl dX9_zonesOf_34
    · replace hf := ifn hf hc
      refine r_iload0 C hl 2 rfl dX9_zonesOf_10 ?_
      refine r_aload0 C hl 0 rfl dX9_zonesOf_11 ?_
      refine r_iload0 C hl 3 rfl dX9_zonesOf_12 ?_
      obtain ⟨u1, e1, hf⟩ := bx hf
      refine r_callVi (ws' := (dO G ad d_ad dw ++ [])) (As := [.int v3]) (rest := [.int v2]) C hw hl.1 kX9_classOf ml_X9_310 (c_X9_classOf l G ad _ d_ad dw v3 u1 e1) (CutX.take dO_f CutX.none) _ (gx_h dO_o) rfl ⟨rfl, rfl⟩ ⟨Nat.le_of_ble_eq_true rfl, Nat.le_of_ble_eq_true rfl⟩ rfl ⟨Nat.zero_le _, Nat.zero_le _⟩ rfl (Nat.le_of_ble_eq_true rfl) dX9_zonesOf_13 (fun H locs hw => ?_)
      refine r_iload0 C hl 1 rfl dX9_zonesOf_16 ?_
      refine lv_icmp_ne (tgt := 24) C.1 C.2.1 dX9_zonesOf_17 (by decide) (fun hc => ?_) (fun hc => ?_)
      · replace hf := ifn hf hc
        refine lv_iconst (v := 0) C.1 C.2.1 dX9_zonesOf_24 (by decide) ?_
        refine lv_iadd C.1 C.2.1 dX9_zonesOf_25 ?_
        refine r_istore0 C hl [(2, .int (v2 + 0)), (0, .ref (ad 99)), (1, .int x1), (3, .int v3)] (by decide) rfl dX9_zonesOf_26 (fun ls hl => ?_)
        refine r_iinc C hl 3 (v3 + 1) [(3, .int (v3 + 1)), (2, .int (v2 + 0)), (0, .ref (ad 99)), (1, .int x1)] rfl (iinc_e (by decide)) (by decide) rfl dX9_zonesOf_27 (fun ls hl => ?_)
        refine lv_goto (tgt := 4) C.1 C.2.1 dX9_zonesOf_30 (by decide) ?_
        exact hk4 (v2 + 0) (v3 + 1) hf _ _ hw _ (lv_sub hl [2, 3, 1, 0] rfl)
      · replace hf := ifp hf hc
        refine lv_iconst (v := 1) C.1 C.2.1 dX9_zonesOf_20 (by decide) ?_
        refine lv_goto (tgt := 25) C.1 C.2.1 dX9_zonesOf_21 (by decide) ?_
        refine lv_iadd C.1 C.2.1 dX9_zonesOf_25 ?_
        refine r_istore0 C hl [(2, .int (v2 + 1)), (0, .ref (ad 99)), (1, .int x1), (3, .int v3)] (by decide) rfl dX9_zonesOf_26 (fun ls hl => ?_)
        refine r_iinc C hl 3 (v3 + 1) [(3, .int (v3 + 1)), (2, .int (v2 + 1)), (0, .ref (ad 99)), (1, .int x1)] rfl (iinc_e (by decide)) (by decide) rfl dX9_zonesOf_27 (fun ls hl => ?_)
        refine lv_goto (tgt := 4) C.1 C.2.1 dX9_zonesOf_30 (by decide) ?_
        exact hk4 (v2 + 1) (v3 + 1) hf _ _ hw _ (lv_sub hl [2, 3, 1, 0] rfl)
  have hL_4 : ∀ n : Nat, ∀ (v2 : Int32) (v3 : Int32), L_X9_zonesOf_4 d_ad x1  n v2 v3 = some out → ∀ (H : Heap) (locs : List Loc), Wd G A s H locs (dO G ad d_ad dw ++ []) → ∀ ls : Array Slot, lv_has ls 4 [(0, .ref (ad 99)), (1, .int x1), (2, .int v2), (3, .int v3)] → W p l e ({ frames := 1, cells := 0, slots := 0, locals := 21 }) s m [.ref (ad 99), .int x1].toArray below meth c H locs 0 0 (MQ below (Ans G out A (dO G ad d_ad dw ++ [])) [.ref (ad 99), .int x1].toArray s 0 0 A) (F0 m 4 ls []) := by
    intro  n
    induction n with
    | zero => intro v2 v3 hf; cases hf
    | succ n ih => exact hB_4 _ ih
  unfold f_X9_zonesOf at hf
  refine lv_iconst (v := 0) C.1 C.2.1 dX9_zonesOf_0 (by decide) ?_
  refine r_istore0 C hl [(2, .int 0), (0, .ref (ad 99)), (1, .int x1)] (by decide) rfl dX9_zonesOf_1 (fun ls hl => ?_)
  refine lv_iconst (v := 0) C.1 C.2.1 dX9_zonesOf_2 (by decide) ?_
  refine r_istore0 C hl [(3, .int 0), (2, .int 0), (0, .ref (ad 99)), (1, .int x1)] (by decide) rfl dX9_zonesOf_3 (fun ls hl => ?_)
  exact hL_4  FU 0 0 hf _ _ hw _ (lv_sub hl [2, 3, 1, 0] rfl)
set_option maxHeartbeats 4000000 in
set_option maxRecDepth 100000 in
theorem c_X9_pagesOf (l : Launch) (G : GG) (ad : Nat → Nat) (sz : Nat) (d_ad : Pic) (dw : Int64) (x1 : Int32) (out : Int32) (hf : f_X9_pagesOf d_ad x1 = some out) : Met l yX9_pagesOf (.code yX9_pagesOf cX9_pagesOf 4 (some .int) :: BT) ({ frames := 2, cells := 0, slots := 0, locals := 44 }) (va_Pc [.ref (ad 99), .int x1] (PreW G sz (dO G ad d_ad dw ++ []))) (Ans G out (va_A (dO G ad d_ad dw ++ []) sz) (dO G ad d_ad dw ++ [])) 0 0 (va_A (dO G ad d_ad dw ++ []) sz) := by
  refine Met.into (by decide) (Nat.le_of_ble_eq_true rfl) ?_
  intro p e s m below meth c C hsz ls hl hw
  have hl : lv_has ls 4 [(0, .ref (ad 99)), (1, .int x1)] := hl
  clear hsz
  generalize va_A (dO G ad d_ad dw ++ []) sz = A at hw ⊢
  have hB_4 : ∀ (k4 : Int32 → Int32 → Option (Int32)) (hk4 : ∀ (v2 : Int32) (v3 : Int32), k4 v2 v3 = some out → ∀ (H : Heap) (locs : List Loc), Wd G A s H locs (dO G ad d_ad dw ++ []) → ∀ ls : Array Slot, lv_has ls 4 [(0, .ref (ad 99)), (1, .int x1), (2, .int v2), (3, .int v3)] → W p l e ({ frames := 2, cells := 0, slots := 0, locals := 44 }) s m [.ref (ad 99), .int x1].toArray below meth c H locs 0 0 (MQ below (Ans G out A (dO G ad d_ad dw ++ [])) [.ref (ad 99), .int x1].toArray s 0 0 A) (F0 m 4 ls [])), ∀ (v2 : Int32) (v3 : Int32), b_X9_pagesOf_4 d_ad x1 k4 v2 v3 = some out → ∀ (H : Heap) (locs : List Loc), Wd G A s H locs (dO G ad d_ad dw ++ []) → ∀ ls : Array Slot, lv_has ls 4 [(0, .ref (ad 99)), (1, .int x1), (2, .int v2), (3, .int v3)] → W p l e ({ frames := 2, cells := 0, slots := 0, locals := 44 }) s m [.ref (ad 99), .int x1].toArray below meth c H locs 0 0 (MQ below (Ans G out A (dO G ad d_ad dw ++ [])) [.ref (ad 99), .int x1].toArray s 0 0 A) (F0 m 4 ls []) := by
    intro k4 hk4 v2 v3 hf H locs hw ls hl
    unfold b_X9_pagesOf_4 at hf
    refine r_iload0 C hl 3 rfl dX9_pagesOf_4 ?_
    refine lv_bipush (v := 24) C.1 C.2.1 dX9_pagesOf_5 (by decide) ?_
    refine lv_icmp_ge (tgt := 37) C.1 C.2.1 dX9_pagesOf_7 (by decide) (fun hc => ?_) (fun hc => ?_)
    · replace hf := ifp hf hc
      refine r_iload0 C hl 2 rfl dX9_pagesOf_37 ?_
      exact fin_i C hw (Option.some.inj hf) (fun o => o) (fun o => (dO G ad d_ad dw ++ [])) rfl rfl dX9_pagesOf_38
    · replace hf := ifn hf hc
      refine r_iload0 C hl 2 rfl dX9_pagesOf_10 ?_
      refine r_aload0 C hl 0 rfl dX9_pagesOf_11 ?_
      refine r_iload0 C hl 3 rfl dX9_pagesOf_12 ?_
      obtain ⟨u1, e1, hf⟩ := bx hf
      refine r_callVi (ws' := (dO G ad d_ad dw ++ [])) (As := [.int v3]) (rest := [.int v2]) C hw hl.1 kX9_classOf ml_X9_310 (c_X9_classOf l G ad _ d_ad dw v3 u1 e1) (CutX.take dO_f CutX.none) _ (gx_h dO_o) rfl ⟨rfl, rfl⟩ ⟨Nat.le_of_ble_eq_true rfl, Nat.le_of_ble_eq_true rfl⟩ rfl ⟨Nat.zero_le _, Nat.zero_le _⟩ rfl (Nat.le_of_ble_eq_true rfl) dX9_pagesOf_13 (fun H locs hw => ?_)
      refine r_iload0 C hl 1 rfl dX9_pagesOf_16 ?_
      refine lv_icmp_ne (tgt := 28) C.1 C.2.1 dX9_pagesOf_17 (by decide) (fun hc => ?_) (fun hc => ?_)
      · replace hf := ifn hf hc
        refine lv_iconst (v := 0) C.1 C.2.1 dX9_pagesOf_28 (by decide) ?_
        refine lv_iadd C.1 C.2.1 dX9_pagesOf_29 ?_
        refine r_istore0 C hl [(2, .int (v2 + 0)), (0, .ref (ad 99)), (1, .int x1), (3, .int v3)] (by decide) rfl dX9_pagesOf_30 (fun ls hl => ?_)
        refine r_iinc C hl 3 (v3 + 1) [(3, .int (v3 + 1)), (2, .int (v2 + 0)), (0, .ref (ad 99)), (1, .int x1)] rfl (iinc_e (by decide)) (by decide) rfl dX9_pagesOf_31 (fun ls hl => ?_)
        refine lv_goto (tgt := 4) C.1 C.2.1 dX9_pagesOf_34 (by decide) ?_
        exact hk4 (v2 + 0) (v3 + 1) hf _ _ hw _ (lv_sub hl [2, 3, 1, 0] rfl)
      · replace hf := ifp hf hc
        refine r_aload0 C hl 0 rfl dX9_pagesOf_20 ?_
        refine r_iload0 C hl 3 rfl dX9_pagesOf_21 ?_
        obtain ⟨u2, e2, hf⟩ := bx hf
        refine r_callVi (ws' := (dO G ad d_ad dw ++ [])) (As := [.int v3]) (rest := [.int v2]) C hw hl.1 kX9_fillOf ml_X9_307 (c_X9_fillOf l G ad _ d_ad dw v3 u2 e2) (CutX.take dO_f CutX.none) _ (gx_h dO_o) rfl ⟨rfl, rfl⟩ ⟨Nat.le_of_ble_eq_true rfl, Nat.le_of_ble_eq_true rfl⟩ rfl ⟨Nat.zero_le _, Nat.zero_le _⟩ rfl (Nat.le_of_ble_eq_true rfl) dX9_pagesOf_22 (fun H locs hw => ?_)
        refine lv_goto (tgt := 29) C.1 C.2.1 dX9_pagesOf_25 (by decide) ?_
        refine lv_iadd C.1 C.2.1 dX9_pagesOf_29 ?_
        refine r_istore0 C hl [(2, .int (v2 + u2)), (0, .ref (ad 99)), (1, .int x1), (3, .int v3)] (by decide) rfl dX9_pagesOf_30 (fun ls hl => ?_)
        refine r_iinc C hl 3 (v3 + 1) [(3, .int (v3 + 1)), (2, .int (v2 + u2)), (0, .ref (ad 99)), (1, .int x1)] rfl (iinc_e (by decide)) (by decide) rfl dX9_pagesOf_31 (fun ls hl => ?_)
        refine lv_goto (tgt := 4) C.1 C.2.1 dX9_pagesOf_34 (by decide) ?_
        exact hk4 (v2 + u2) (v3 + 1) hf _ _ hw _ (lv_sub hl [2, 3, 1, 0] rfl)
  have hL_4 : ∀ n : Nat, ∀ (v2 : Int32) (v3 : Int32), L_X9_pagesOf_4 d_ad x1  n v2 v3 = some out → ∀ (H : Heap) (locs : List Loc), Wd G A s H locs (dO G ad d_ad dw ++ []) → ∀ ls : Array Slot, lv_has ls 4 [(0, .ref (ad 99)), (1, .int x1), (2, .int v2), (3, .int v3)] → W p l e ({ frames := 2, cells := 0, slots := 0, locals := 44 }) s m [.ref (ad 99), .int x1].toArray below meth c H locs 0 0 (MQ below (Ans G out A (dO G ad d_ad dw ++ [])) [.ref (ad 99), .int x1].toArray s 0 0 A) (F0 m 4 ls []) := by
    intro  n
    induction n with
    | zero => intro v2 v3 hf; cases hf
    | succ n ih => exact hB_4 _ ih
  unfold f_X9_pagesOf at hf
  refine lv_iconst (v := 0) C.1 C.2.1 dX9_pagesOf_0 (by decide) ?_
  refine r_istore0 C hl [(2, .int 0), (0, .ref (ad 99)), (1, .int x1)] (by decide) rfl dX9_pagesOf_1 (fun ls hl => ?_)
  refine lv_iconst (v := 0) C.1 C.2.1 dX9_pagesOf_2 (by decide) ?_
  refine r_istore0 C hl [(3, .int 0), (2, .int 0), (0, .ref (ad 99)), (1, .int x1)] (by decide) rfl dX9_pagesOf_3 (fun ls hl => ?_)
  exact hL_4  FU 0 0 hf _ _ hw _ (lv_sub hl [2, 3, 1, 0] rfl)
set_option maxHeartbeats 4000000 in
set_option maxRecDepth 100000 in
theorem c_X9_zonesNow (l : Launch) (G : GG) (ad : Nat → Nat) (sz : Nat) (d_ad : Pic) (dw : Int64)  (out : Int32) (hf : f_X9_zonesNow d_ad = some out) : Met l yX9_zonesNow (.code yX9_zonesNow cX9_zonesNow 3 (some .int) :: BT) ({ frames := 1, cells := 0, slots := 0, locals := 21 }) (va_Pc [.ref (ad 99)] (PreW G sz (dO G ad d_ad dw ++ []))) (Ans G out (va_A (dO G ad d_ad dw ++ []) sz) (dO G ad d_ad dw ++ [])) 0 0 (va_A (dO G ad d_ad dw ++ []) sz) := by
  refine Met.into (by decide) (Nat.le_of_ble_eq_true rfl) ?_
  intro p e s m below meth c C hsz ls hl hw
  have hl : lv_has ls 3 [(0, .ref (ad 99))] := hl
  clear hsz
  generalize va_A (dO G ad d_ad dw ++ []) sz = A at hw ⊢
  have hB_4 : ∀ (k4 : Int32 → Int32 → Option (Int32)) (hk4 : ∀ (v1 : Int32) (v2 : Int32), k4 v1 v2 = some out → ∀ (H : Heap) (locs : List Loc), Wd G A s H locs (dO G ad d_ad dw ++ []) → ∀ ls : Array Slot, lv_has ls 3 [(0, .ref (ad 99)), (1, .int v1), (2, .int v2)] → W p l e ({ frames := 1, cells := 0, slots := 0, locals := 21 }) s m [.ref (ad 99)].toArray below meth c H locs 0 0 (MQ below (Ans G out A (dO G ad d_ad dw ++ [])) [.ref (ad 99)].toArray s 0 0 A) (F0 m 4 ls [])), ∀ (v1 : Int32) (v2 : Int32), b_X9_zonesNow_4 d_ad k4 v1 v2 = some out → ∀ (H : Heap) (locs : List Loc), Wd G A s H locs (dO G ad d_ad dw ++ []) → ∀ ls : Array Slot, lv_has ls 3 [(0, .ref (ad 99)), (1, .int v1), (2, .int v2)] → W p l e ({ frames := 1, cells := 0, slots := 0, locals := 21 }) s m [.ref (ad 99)].toArray below meth c H locs 0 0 (MQ below (Ans G out A (dO G ad d_ad dw ++ [])) [.ref (ad 99)].toArray s 0 0 A) (F0 m 4 ls []) := by
    intro k4 hk4 v1 v2 hf H locs hw ls hl
    unfold b_X9_zonesNow_4 at hf
    refine r_iload0 C hl 2 rfl dX9_zonesNow_4 ?_
    refine lv_bipush (v := 24) C.1 C.2.1 dX9_zonesNow_5 (by decide) ?_
    refine lv_icmp_ge (tgt := 32) C.1 C.2.1 dX9_zonesNow_7 (by decide) (fun hc => ?_) (fun hc => ?_)
    · replace hf := ifp hf hc
      refine r_iload0 C hl 1 rfl dX9_zonesNow_32 ?_
      exact fin_i C hw (Option.some.inj hf) (fun o => o) (fun o => (dO G ad d_ad dw ++ [])) rfl rfl dX9_zonesNow_33
    · replace hf := ifn hf hc
      refine r_iload0 C hl 1 rfl dX9_zonesNow_10 ?_
      refine r_aload0 C hl 0 rfl dX9_zonesNow_11 ?_
      refine r_iload0 C hl 2 rfl dX9_zonesNow_12 ?_
      obtain ⟨u1, e1, hf⟩ := bx hf
      refine r_callVi (ws' := (dO G ad d_ad dw ++ [])) (As := [.int v2]) (rest := [.int v1]) C hw hl.1 kX9_classOf ml_X9_310 (c_X9_classOf l G ad _ d_ad dw v2 u1 e1) (CutX.take dO_f CutX.none) _ (gx_h dO_o) rfl ⟨rfl, rfl⟩ ⟨Nat.le_of_ble_eq_true rfl, Nat.le_of_ble_eq_true rfl⟩ rfl ⟨Nat.zero_le _, Nat.zero_le _⟩ rfl (Nat.le_of_ble_eq_true rfl) dX9_zonesNow_13 (fun H locs hw => ?_)
      refine lv_if_le (tgt := 23) C.1 C.2.1 dX9_zonesNow_16 (by decide) (fun hc => ?_) (fun hc => ?_)
      · replace hf := ifp hf hc
        refine lv_iconst (v := 0) C.1 C.2.1 dX9_zonesNow_23 (by decide) ?_
        refine lv_iadd C.1 C.2.1 dX9_zonesNow_24 ?_
        refine r_istore0 C hl [(1, .int (v1 + 0)), (0, .ref (ad 99)), (2, .int v2)] (by decide) rfl dX9_zonesNow_25 (fun ls hl => ?_)
        refine r_iinc C hl 2 (v2 + 1) [(2, .int (v2 + 1)), (1, .int (v1 + 0)), (0, .ref (ad 99))] rfl (iinc_e (by decide)) (by decide) rfl dX9_zonesNow_26 (fun ls hl => ?_)
        refine lv_goto (tgt := 4) C.1 C.2.1 dX9_zonesNow_29 (by decide) ?_
        exact hk4 (v1 + 0) (v2 + 1) hf _ _ hw _ (lv_sub hl [2, 1, 0] rfl)
      · replace hf := ifn hf hc
        refine lv_iconst (v := 1) C.1 C.2.1 dX9_zonesNow_19 (by decide) ?_
        refine lv_goto (tgt := 24) C.1 C.2.1 dX9_zonesNow_20 (by decide) ?_
        refine lv_iadd C.1 C.2.1 dX9_zonesNow_24 ?_
        refine r_istore0 C hl [(1, .int (v1 + 1)), (0, .ref (ad 99)), (2, .int v2)] (by decide) rfl dX9_zonesNow_25 (fun ls hl => ?_)
        refine r_iinc C hl 2 (v2 + 1) [(2, .int (v2 + 1)), (1, .int (v1 + 1)), (0, .ref (ad 99))] rfl (iinc_e (by decide)) (by decide) rfl dX9_zonesNow_26 (fun ls hl => ?_)
        refine lv_goto (tgt := 4) C.1 C.2.1 dX9_zonesNow_29 (by decide) ?_
        exact hk4 (v1 + 1) (v2 + 1) hf _ _ hw _ (lv_sub hl [2, 1, 0] rfl)
  have hL_4 : ∀ n : Nat, ∀ (v1 : Int32) (v2 : Int32), L_X9_zonesNow_4 d_ad  n v1 v2 = some out → ∀ (H : Heap) (locs : List Loc), Wd G A s H locs (dO G ad d_ad dw ++ []) → ∀ ls : Array Slot, lv_has ls 3 [(0, .ref (ad 99)), (1, .int v1), (2, .int v2)] → W p l e ({ frames := 1, cells := 0, slots := 0, locals := 21 }) s m [.ref (ad 99)].toArray below meth c H locs 0 0 (MQ below (Ans G out A (dO G ad d_ad dw ++ [])) [.ref (ad 99)].toArray s 0 0 A) (F0 m 4 ls []) := by
    intro  n
    induction n with
    | zero => intro v1 v2 hf; cases hf
    | succ n ih => exact hB_4 _ ih
  unfold f_X9_zonesNow at hf
  refine lv_iconst (v := 0) C.1 C.2.1 dX9_zonesNow_0 (by decide) ?_
  refine r_istore0 C hl [(1, .int 0), (0, .ref (ad 99))] (by decide) rfl dX9_zonesNow_1 (fun ls hl => ?_)
  refine lv_iconst (v := 0) C.1 C.2.1 dX9_zonesNow_2 (by decide) ?_
  refine r_istore0 C hl [(2, .int 0), (1, .int 0), (0, .ref (ad 99))] (by decide) rfl dX9_zonesNow_3 (fun ls hl => ?_)
  exact hL_4  FU 0 0 hf _ _ hw _ (lv_sub hl [2, 1, 0] rfl)
set_option maxHeartbeats 4000000 in
set_option maxRecDepth 100000 in
theorem c_X9_framesNow (l : Launch) (G : GG) (ad : Nat → Nat) (sz : Nat) (d_ad : Pic) (dw : Int64)  (out : Int32) (hf : f_X9_framesNow d_ad = some out) : Met l yX9_framesNow (.code yX9_framesNow cX9_framesNow 3 (some .int) :: BT) ({ frames := 1, cells := 0, slots := 0, locals := 22 }) (va_Pc [.ref (ad 99)] (PreW G sz (dO G ad d_ad dw ++ []))) (Ans G out (va_A (dO G ad d_ad dw ++ []) sz) (dO G ad d_ad dw ++ [])) 0 0 (va_A (dO G ad d_ad dw ++ []) sz) := by
  refine Met.into (by decide) (Nat.le_of_ble_eq_true rfl) ?_
  intro p e s m below meth c C hsz ls hl hw
  have hl : lv_has ls 3 [(0, .ref (ad 99))] := hl
  clear hsz
  generalize va_A (dO G ad d_ad dw ++ []) sz = A at hw ⊢
  have hB_4 : ∀ (k4 : Int32 → Int32 → Option (Int32)) (hk4 : ∀ (v1 : Int32) (v2 : Int32), k4 v1 v2 = some out → ∀ (H : Heap) (locs : List Loc), Wd G A s H locs (dO G ad d_ad dw ++ []) → ∀ ls : Array Slot, lv_has ls 3 [(0, .ref (ad 99)), (1, .int v1), (2, .int v2)] → W p l e ({ frames := 1, cells := 0, slots := 0, locals := 22 }) s m [.ref (ad 99)].toArray below meth c H locs 0 0 (MQ below (Ans G out A (dO G ad d_ad dw ++ [])) [.ref (ad 99)].toArray s 0 0 A) (F0 m 4 ls [])), ∀ (v1 : Int32) (v2 : Int32), b_X9_framesNow_4 d_ad k4 v1 v2 = some out → ∀ (H : Heap) (locs : List Loc), Wd G A s H locs (dO G ad d_ad dw ++ []) → ∀ ls : Array Slot, lv_has ls 3 [(0, .ref (ad 99)), (1, .int v1), (2, .int v2)] → W p l e ({ frames := 1, cells := 0, slots := 0, locals := 22 }) s m [.ref (ad 99)].toArray below meth c H locs 0 0 (MQ below (Ans G out A (dO G ad d_ad dw ++ [])) [.ref (ad 99)].toArray s 0 0 A) (F0 m 4 ls []) := by
    intro k4 hk4 v1 v2 hf H locs hw ls hl
    unfold b_X9_framesNow_4 at hf
    refine r_iload0 C hl 2 rfl dX9_framesNow_4 ?_
    refine lv_bipush (v := 24) C.1 C.2.1 dX9_framesNow_5 (by decide) ?_
    refine lv_icmp_ge (tgt := 39) C.1 C.2.1 dX9_framesNow_7 (by decide) (fun hc => ?_) (fun hc => ?_)
    · replace hf := ifp hf hc
      refine r_iload0 C hl 1 rfl dX9_framesNow_39 ?_
      exact fin_i C hw (Option.some.inj hf) (fun o => o) (fun o => (dO G ad d_ad dw ++ [])) rfl rfl dX9_framesNow_40
    · replace hf := ifn hf hc
      refine r_iload0 C hl 1 rfl dX9_framesNow_10 ?_
      refine r_aload0 C hl 0 rfl dX9_framesNow_11 ?_
      refine r_iload0 C hl 2 rfl dX9_framesNow_12 ?_
      obtain ⟨u1, e1, hf⟩ := bx hf
      refine r_callVi (ws' := (dO G ad d_ad dw ++ [])) (As := [.int v2]) (rest := [.int v1]) C hw hl.1 kX9_classOf ml_X9_310 (c_X9_classOf l G ad _ d_ad dw v2 u1 e1) (CutX.take dO_f CutX.none) _ (gx_h dO_o) rfl ⟨rfl, rfl⟩ ⟨Nat.le_of_ble_eq_true rfl, Nat.le_of_ble_eq_true rfl⟩ rfl ⟨Nat.zero_le _, Nat.zero_le _⟩ rfl (Nat.le_of_ble_eq_true rfl) dX9_framesNow_13 (fun H locs hw => ?_)
      refine lv_if_le (tgt := 30) C.1 C.2.1 dX9_framesNow_16 (by decide) (fun hc => ?_) (fun hc => ?_)
      · replace hf := ifp hf hc
        refine lv_iconst (v := 0) C.1 C.2.1 dX9_framesNow_30 (by decide) ?_
        refine lv_iadd C.1 C.2.1 dX9_framesNow_31 ?_
        refine r_istore0 C hl [(1, .int (v1 + 0)), (0, .ref (ad 99)), (2, .int v2)] (by decide) rfl dX9_framesNow_32 (fun ls hl => ?_)
        refine r_iinc C hl 2 (v2 + 1) [(2, .int (v2 + 1)), (1, .int (v1 + 0)), (0, .ref (ad 99))] rfl (iinc_e (by decide)) (by decide) rfl dX9_framesNow_33 (fun ls hl => ?_)
        refine lv_goto (tgt := 4) C.1 C.2.1 dX9_framesNow_36 (by decide) ?_
        exact hk4 (v1 + 0) (v2 + 1) hf _ _ hw _ (lv_sub hl [2, 1, 0] rfl)
      · replace hf := ifn hf hc
        refine r_aload0 C hl 0 rfl dX9_framesNow_19 ?_
        refine r_iload0 C hl 2 rfl dX9_framesNow_20 ?_
        obtain ⟨u2, e2, hf⟩ := bx hf
        refine r_callVi (ws' := (dO G ad d_ad dw ++ [])) (As := [.int v2]) (rest := [.int v1]) C hw hl.1 kX9_classOf ml_X9_310 (c_X9_classOf l G ad _ d_ad dw v2 u2 e2) (CutX.take dO_f CutX.none) _ (gx_h dO_o) rfl ⟨rfl, rfl⟩ ⟨Nat.le_of_ble_eq_true rfl, Nat.le_of_ble_eq_true rfl⟩ rfl ⟨Nat.zero_le _, Nat.zero_le _⟩ rfl (Nat.le_of_ble_eq_true rfl) dX9_framesNow_21 (fun H locs hw => ?_)
        obtain ⟨u3, e3, hf⟩ := bx hf
        refine r_callSi (ws' := (dO G ad d_ad dw ++ [])) (As := [.int u2]) (rest := [.int v1]) C hw hl.1 kX9_framesOf ml_X9_286 (c_X9_framesOf l G _ u2 u3 e3) CutX.none ⟨rfl, rfl⟩ ⟨Nat.le_of_ble_eq_true rfl, Nat.le_of_ble_eq_true rfl⟩ rfl ⟨Nat.zero_le _, Nat.zero_le _⟩ rfl (Nat.le_of_ble_eq_true rfl) dX9_framesNow_24 (fun H locs hw => ?_)
        refine lv_goto (tgt := 31) C.1 C.2.1 dX9_framesNow_27 (by decide) ?_
        refine lv_iadd C.1 C.2.1 dX9_framesNow_31 ?_
        refine r_istore0 C hl [(1, .int (v1 + u3)), (0, .ref (ad 99)), (2, .int v2)] (by decide) rfl dX9_framesNow_32 (fun ls hl => ?_)
        refine r_iinc C hl 2 (v2 + 1) [(2, .int (v2 + 1)), (1, .int (v1 + u3)), (0, .ref (ad 99))] rfl (iinc_e (by decide)) (by decide) rfl dX9_framesNow_33 (fun ls hl => ?_)
        refine lv_goto (tgt := 4) C.1 C.2.1 dX9_framesNow_36 (by decide) ?_
        exact hk4 (v1 + u3) (v2 + 1) hf _ _ hw _ (lv_sub hl [2, 1, 0] rfl)
  have hL_4 : ∀ n : Nat, ∀ (v1 : Int32) (v2 : Int32), L_X9_framesNow_4 d_ad  n v1 v2 = some out → ∀ (H : Heap) (locs : List Loc), Wd G A s H locs (dO G ad d_ad dw ++ []) → ∀ ls : Array Slot, lv_has ls 3 [(0, .ref (ad 99)), (1, .int v1), (2, .int v2)] → W p l e ({ frames := 1, cells := 0, slots := 0, locals := 22 }) s m [.ref (ad 99)].toArray below meth c H locs 0 0 (MQ below (Ans G out A (dO G ad d_ad dw ++ [])) [.ref (ad 99)].toArray s 0 0 A) (F0 m 4 ls []) := by
    intro  n
    induction n with
    | zero => intro v1 v2 hf; cases hf
    | succ n ih => exact hB_4 _ ih
  unfold f_X9_framesNow at hf
  refine lv_iconst (v := 0) C.1 C.2.1 dX9_framesNow_0 (by decide) ?_
  refine r_istore0 C hl [(1, .int 0), (0, .ref (ad 99))] (by decide) rfl dX9_framesNow_1 (fun ls hl => ?_)
  refine lv_iconst (v := 0) C.1 C.2.1 dX9_framesNow_2 (by decide) ?_
  refine r_istore0 C hl [(2, .int 0), (1, .int 0), (0, .ref (ad 99))] (by decide) rfl dX9_framesNow_3 (fun ls hl => ?_)
  exact hL_4  FU 0 0 hf _ _ hw _ (lv_sub hl [2, 1, 0] rfl)
set_option maxHeartbeats 4000000 in
set_option maxRecDepth 100000 in
theorem c_X9_freeSlot (l : Launch) (G : GG) (ad : Nat → Nat) (sz : Nat) (d_ad : Pic) (dw : Int64) (x1 : Int32) (out : Int32) (hf : f_X9_freeSlot d_ad x1 = some out) : Met l yX9_freeSlot (.code yX9_freeSlot cX9_freeSlot 3 (some .int) :: BT) ({ frames := 2, cells := 0, slots := 0, locals := 42 }) (va_Pc [.ref (ad 99), .int x1] (PreW G sz (dO G ad d_ad dw ++ []))) (Ans G out (va_A (dO G ad d_ad dw ++ []) sz) (dO G ad d_ad dw ++ [])) 0 0 (va_A (dO G ad d_ad dw ++ []) sz) := by
  refine Met.into (by decide) (Nat.le_of_ble_eq_true rfl) ?_
  intro p e s m below meth c C hsz ls hl hw
  have hl : lv_has ls 3 [(0, .ref (ad 99)), (1, .int x1)] := hl
  clear hsz
  generalize va_A (dO G ad d_ad dw ++ []) sz = A at hw ⊢
  have hB_2 : ∀ (k2 : Int32 → Option (Int32)) (hk2 : ∀ (v2 : Int32), k2 v2 = some out → ∀ (H : Heap) (locs : List Loc), Wd G A s H locs (dO G ad d_ad dw ++ []) → ∀ ls : Array Slot, lv_has ls 3 [(0, .ref (ad 99)), (1, .int x1), (2, .int v2)] → W p l e ({ frames := 2, cells := 0, slots := 0, locals := 42 }) s m [.ref (ad 99), .int x1].toArray below meth c H locs 0 0 (MQ below (Ans G out A (dO G ad d_ad dw ++ [])) [.ref (ad 99), .int x1].toArray s 0 0 A) (F0 m 2 ls [])), ∀ (v2 : Int32), b_X9_freeSlot_2 d_ad x1 k2 v2 = some out → ∀ (H : Heap) (locs : List Loc), Wd G A s H locs (dO G ad d_ad dw ++ []) → ∀ ls : Array Slot, lv_has ls 3 [(0, .ref (ad 99)), (1, .int x1), (2, .int v2)] → W p l e ({ frames := 2, cells := 0, slots := 0, locals := 42 }) s m [.ref (ad 99), .int x1].toArray below meth c H locs 0 0 (MQ below (Ans G out A (dO G ad d_ad dw ++ [])) [.ref (ad 99), .int x1].toArray s 0 0 A) (F0 m 2 ls []) := by
    intro k2 hk2 v2 hf H locs hw ls hl
    unfold b_X9_freeSlot_2 at hf
    refine r_iload0 C hl 2 rfl dX9_freeSlot_2 ?_
    refine r_aload0 C hl 0 rfl dX9_freeSlot_3 ?_
    refine r_iload0 C hl 1 rfl dX9_freeSlot_4 ?_
    obtain ⟨u1, e1, hf⟩ := bx hf
    refine r_callVi (ws' := (dO G ad d_ad dw ++ [])) (As := [.int x1]) (rest := [.int v2]) C hw hl.1 kX9_classOf ml_X9_310 (c_X9_classOf l G ad _ d_ad dw x1 u1 e1) (CutX.take dO_f CutX.none) _ (gx_h dO_o) rfl ⟨rfl, rfl⟩ ⟨Nat.le_of_ble_eq_true rfl, Nat.le_of_ble_eq_true rfl⟩ rfl ⟨Nat.zero_le _, Nat.zero_le _⟩ rfl (Nat.le_of_ble_eq_true rfl) dX9_freeSlot_5 (fun H locs hw => ?_)
    obtain ⟨u2, e2, hf⟩ := bx hf
    refine r_callSi (ws' := (dO G ad d_ad dw ++ [])) (As := [.int u1]) (rest := [.int v2]) C hw hl.1 kX9_slotsOf ml_X9_295 (c_X9_slotsOf l G _ u1 u2 e2) CutX.none ⟨rfl, rfl⟩ ⟨Nat.le_of_ble_eq_true rfl, Nat.le_of_ble_eq_true rfl⟩ rfl ⟨Nat.zero_le _, Nat.zero_le _⟩ rfl (Nat.le_of_ble_eq_true rfl) dX9_freeSlot_8 (fun H locs hw => ?_)
    refine lv_icmp_ge (tgt := 35) C.1 C.2.1 dX9_freeSlot_11 (by decide) (fun hc => ?_) (fun hc => ?_)
    · replace hf := ifp hf hc
      refine lv_iconst (v := (-1)) C.1 C.2.1 dX9_freeSlot_35 (by decide) ?_
      exact fin_i C hw (Option.some.inj hf) (fun o => o) (fun o => (dO G ad d_ad dw ++ [])) rfl rfl dX9_freeSlot_36
    · replace hf := ifn hf hc
      refine r_aload0 C hl 0 rfl dX9_freeSlot_14 ?_
      refine r_get C hw _ (gx_h dO_o) 20 fl_X9_35 rfl dX9_freeSlot_15 ?_
      refine r_iload0 C hl 1 rfl dX9_freeSlot_18 ?_
      refine r_iload0 C hl 2 rfl dX9_freeSlot_19 ?_
      obtain ⟨u3, e3, hf⟩ := bx hf
      refine r_callSi (ws' := (dO G ad d_ad dw ++ [])) (As := [.int x1, .int v2]) (rest := [.ref (ad 20)]) C hw hl.1 kX9_slotAt ml_X9_304 (c_X9_slotAt l G _ x1 v2 u3 e3) CutX.none ⟨rfl, rfl⟩ ⟨Nat.le_of_ble_eq_true rfl, Nat.le_of_ble_eq_true rfl⟩ rfl ⟨Nat.zero_le _, Nat.zero_le _⟩ rfl (Nat.le_of_ble_eq_true rfl) dX9_freeSlot_20 (fun H locs hw => ?_)
      obtain ⟨v4_, e4, hf⟩ := bx hf
      refine r_iald C hw _ (gx_h dO_g20) e4 dX9_freeSlot_23 ?_
      refine lv_if_ne (tgt := 29) C.1 C.2.1 dX9_freeSlot_24 (by decide) (fun hc => ?_) (fun hc => ?_)
      · replace hf := ifn hf hc
        refine r_iinc C hl 2 (v2 + 1) [(2, .int (v2 + 1)), (0, .ref (ad 99)), (1, .int x1)] rfl (iinc_e (by decide)) (by decide) rfl dX9_freeSlot_29 (fun ls hl => ?_)
        refine lv_goto (tgt := 2) C.1 C.2.1 dX9_freeSlot_32 (by decide) ?_
        exact hk2 (v2 + 1) hf _ _ hw _ (lv_sub hl [1, 2, 0] rfl)
      · replace hf := ifp hf hc
        refine r_iload0 C hl 2 rfl dX9_freeSlot_27 ?_
        exact fin_i C hw (Option.some.inj hf) (fun o => o) (fun o => (dO G ad d_ad dw ++ [])) rfl rfl dX9_freeSlot_28
  have hL_2 : ∀ n : Nat, ∀ (v2 : Int32), L_X9_freeSlot_2 d_ad x1  n v2 = some out → ∀ (H : Heap) (locs : List Loc), Wd G A s H locs (dO G ad d_ad dw ++ []) → ∀ ls : Array Slot, lv_has ls 3 [(0, .ref (ad 99)), (1, .int x1), (2, .int v2)] → W p l e ({ frames := 2, cells := 0, slots := 0, locals := 42 }) s m [.ref (ad 99), .int x1].toArray below meth c H locs 0 0 (MQ below (Ans G out A (dO G ad d_ad dw ++ [])) [.ref (ad 99), .int x1].toArray s 0 0 A) (F0 m 2 ls []) := by
    intro  n
    induction n with
    | zero => intro v2 hf; cases hf
    | succ n ih => exact hB_2 _ ih
  unfold f_X9_freeSlot at hf
  refine lv_iconst (v := 0) C.1 C.2.1 dX9_freeSlot_0 (by decide) ?_
  refine r_istore0 C hl [(2, .int 0), (0, .ref (ad 99)), (1, .int x1)] (by decide) rfl dX9_freeSlot_1 (fun ls hl => ?_)
  exact hL_2  FU 0 hf _ _ hw _ (lv_sub hl [1, 2, 0] rfl)
set_option maxHeartbeats 4000000 in
set_option maxRecDepth 100000 in
theorem c_X9_fullestOf (l : Launch) (G : GG) (ad : Nat → Nat) (sz : Nat) (d_ad : Pic) (dw : Int64) (x1 x2 : Int32) (out : Int32) (hf : f_X9_fullestOf d_ad x1 x2 = some out) : Met l yX9_fullestOf (.code yX9_fullestOf cX9_fullestOf 5 (some .int) :: BT) ({ frames := 3, cells := 0, slots := 0, locals := 65 }) (va_Pc [.ref (ad 99), .int x1, .int x2] (PreW G sz (dO G ad d_ad dw ++ []))) (Ans G out (va_A (dO G ad d_ad dw ++ []) sz) (dO G ad d_ad dw ++ [])) 0 0 (va_A (dO G ad d_ad dw ++ []) sz) := by
  refine Met.into (by decide) (Nat.le_of_ble_eq_true rfl) ?_
  intro p e s m below meth c C hsz ls hl hw
  have hl : lv_has ls 5 [(0, .ref (ad 99)), (1, .int x1), (2, .int x2)] := hl
  clear hsz
  generalize va_A (dO G ad d_ad dw ++ []) sz = A at hw ⊢
  have hB_5 : ∀ (k5 : Int32 → Int32 → Option (Int32)) (hk5 : ∀ (v3 : Int32) (v4 : Int32), k5 v3 v4 = some out → ∀ (H : Heap) (locs : List Loc), Wd G A s H locs (dO G ad d_ad dw ++ []) → ∀ ls : Array Slot, lv_has ls 5 [(0, .ref (ad 99)), (1, .int x1), (2, .int x2), (3, .int v3), (4, .int v4)] → W p l e ({ frames := 3, cells := 0, slots := 0, locals := 65 }) s m [.ref (ad 99), .int x1, .int x2].toArray below meth c H locs 0 0 (MQ below (Ans G out A (dO G ad d_ad dw ++ [])) [.ref (ad 99), .int x1, .int x2].toArray s 0 0 A) (F0 m 5 ls [])), ∀ (v3 : Int32) (v4 : Int32), b_X9_fullestOf_5 d_ad x1 x2 k5 v3 v4 = some out → ∀ (H : Heap) (locs : List Loc), Wd G A s H locs (dO G ad d_ad dw ++ []) → ∀ ls : Array Slot, lv_has ls 5 [(0, .ref (ad 99)), (1, .int x1), (2, .int x2), (3, .int v3), (4, .int v4)] → W p l e ({ frames := 3, cells := 0, slots := 0, locals := 65 }) s m [.ref (ad 99), .int x1, .int x2].toArray below meth c H locs 0 0 (MQ below (Ans G out A (dO G ad d_ad dw ++ [])) [.ref (ad 99), .int x1, .int x2].toArray s 0 0 A) (F0 m 5 ls []) := by
    intro k5 hk5 v3 v4 hf H locs hw ls hl
    unfold b_X9_fullestOf_5 at hf
    refine r_iload C hl 4 rfl dX9_fullestOf_5 ?_
    refine lv_bipush (v := 24) C.1 C.2.1 dX9_fullestOf_7 (by decide) ?_
    refine lv_icmp_ge (tgt := 68) C.1 C.2.1 dX9_fullestOf_9 (by decide) (fun hc => ?_) (fun hc => ?_)
    · replace hf := ifp hf hc
      refine r_iload0 C hl 3 rfl dX9_fullestOf_68 ?_
      exact fin_i C hw (Option.some.inj hf) (fun o => o) (fun o => (dO G ad d_ad dw ++ [])) rfl rfl dX9_fullestOf_69
    · replace hf := ifn hf hc
      refine r_iload C hl 4 rfl dX9_fullestOf_12 ?_
      refine r_iload0 C hl 2 rfl dX9_fullestOf_14 ?_
      refine lv_icmp_eq (tgt := 62) C.1 C.2.1 dX9_fullestOf_15 (by decide) (fun hc => ?_) (fun hc => ?_)
      · replace hf := ifp hf hc
        refine r_iinc C hl 4 (v4 + 1) [(4, .int (v4 + 1)), (0, .ref (ad 99)), (1, .int x1), (2, .int x2), (3, .int v3)] rfl (iinc_e (by decide)) (by decide) rfl dX9_fullestOf_62 (fun ls hl => ?_)
        refine lv_goto (tgt := 5) C.1 C.2.1 dX9_fullestOf_65 (by decide) ?_
        exact hk5 v3 (v4 + 1) hf _ _ hw _ (lv_sub hl [1, 2, 3, 4, 0] rfl)
      · replace hf := ifn hf hc
        refine r_aload0 C hl 0 rfl dX9_fullestOf_18 ?_
        refine r_iload C hl 4 rfl dX9_fullestOf_19 ?_
        obtain ⟨u1, e1, hf⟩ := bx hf
        refine r_callVi (ws' := (dO G ad d_ad dw ++ [])) (As := [.int v4]) (rest := []) C hw hl.1 kX9_classOf ml_X9_310 (c_X9_classOf l G ad _ d_ad dw v4 u1 e1) (CutX.take dO_f CutX.none) _ (gx_h dO_o) rfl ⟨rfl, rfl⟩ ⟨Nat.le_of_ble_eq_true rfl, Nat.le_of_ble_eq_true rfl⟩ rfl ⟨Nat.zero_le _, Nat.zero_le _⟩ rfl (Nat.le_of_ble_eq_true rfl) dX9_fullestOf_21 (fun H locs hw => ?_)
        refine r_iload0 C hl 1 rfl dX9_fullestOf_24 ?_
        refine lv_icmp_ne (tgt := 62) C.1 C.2.1 dX9_fullestOf_25 (by decide) (fun hc => ?_) (fun hc => ?_)
        · replace hf := ifn hf hc
          refine r_iinc C hl 4 (v4 + 1) [(4, .int (v4 + 1)), (0, .ref (ad 99)), (1, .int x1), (2, .int x2), (3, .int v3)] rfl (iinc_e (by decide)) (by decide) rfl dX9_fullestOf_62 (fun ls hl => ?_)
          refine lv_goto (tgt := 5) C.1 C.2.1 dX9_fullestOf_65 (by decide) ?_
          exact hk5 v3 (v4 + 1) hf _ _ hw _ (lv_sub hl [1, 2, 3, 4, 0] rfl)
        · replace hf := ifp hf hc
          refine r_aload0 C hl 0 rfl dX9_fullestOf_28 ?_
          refine r_iload C hl 4 rfl dX9_fullestOf_29 ?_
          obtain ⟨u2, e2, hf⟩ := bx hf
          refine r_callVi (ws' := (dO G ad d_ad dw ++ [])) (As := [.int v4]) (rest := []) C hw hl.1 kX9_isFull ml_X9_313 (c_X9_isFull l G ad _ d_ad dw v4 u2 e2) (CutX.take dO_f CutX.none) _ (gx_h dO_o) rfl ⟨rfl, rfl⟩ ⟨Nat.le_of_ble_eq_true rfl, Nat.le_of_ble_eq_true rfl⟩ rfl ⟨Nat.zero_le _, Nat.zero_le _⟩ rfl (Nat.le_of_ble_eq_true rfl) dX9_fullestOf_31 (fun H locs hw => ?_)
          refine lv_if_eq (tgt := 40) C.1 C.2.1 dX9_fullestOf_34 (by decide) (fun hc => ?_) (fun hc => ?_)
          · replace hf := ifp hf hc
            refine r_iload0 C hl 3 rfl dX9_fullestOf_40 ?_
            refine lv_iconst (v := (-1)) C.1 C.2.1 dX9_fullestOf_41 (by decide) ?_
            refine lv_icmp_eq (tgt := 59) C.1 C.2.1 dX9_fullestOf_42 (by decide) (fun hc => ?_) (fun hc => ?_)
            · replace hf := ifp hf hc
              refine r_iload C hl 4 rfl dX9_fullestOf_59 ?_
              refine r_istore0 C hl [(3, .int v4), (0, .ref (ad 99)), (1, .int x1), (2, .int x2), (4, .int v4)] (by decide) rfl dX9_fullestOf_61 (fun ls hl => ?_)
              refine r_iinc C hl 4 (v4 + 1) [(4, .int (v4 + 1)), (3, .int v4), (0, .ref (ad 99)), (1, .int x1), (2, .int x2)] rfl (iinc_e (by decide)) (by decide) rfl dX9_fullestOf_62 (fun ls hl => ?_)
              refine lv_goto (tgt := 5) C.1 C.2.1 dX9_fullestOf_65 (by decide) ?_
              exact hk5 v4 (v4 + 1) hf _ _ hw _ (lv_sub hl [2, 3, 4, 1, 0] rfl)
            · replace hf := ifn hf hc
              refine r_aload0 C hl 0 rfl dX9_fullestOf_45 ?_
              refine r_iload C hl 4 rfl dX9_fullestOf_46 ?_
              obtain ⟨u3, e3, hf⟩ := bx hf
              refine r_callVi (ws' := (dO G ad d_ad dw ++ [])) (As := [.int v4]) (rest := []) C hw hl.1 kX9_fillOf ml_X9_307 (c_X9_fillOf l G ad _ d_ad dw v4 u3 e3) (CutX.take dO_f CutX.none) _ (gx_h dO_o) rfl ⟨rfl, rfl⟩ ⟨Nat.le_of_ble_eq_true rfl, Nat.le_of_ble_eq_true rfl⟩ rfl ⟨Nat.zero_le _, Nat.zero_le _⟩ rfl (Nat.le_of_ble_eq_true rfl) dX9_fullestOf_48 (fun H locs hw => ?_)
              refine r_aload0 C hl 0 rfl dX9_fullestOf_51 ?_
              refine r_iload0 C hl 3 rfl dX9_fullestOf_52 ?_
              obtain ⟨u4, e4, hf⟩ := bx hf
              refine r_callVi (ws' := (dO G ad d_ad dw ++ [])) (As := [.int v3]) (rest := [.int u3]) C hw hl.1 kX9_fillOf ml_X9_307 (c_X9_fillOf l G ad _ d_ad dw v3 u4 e4) (CutX.take dO_f CutX.none) _ (gx_h dO_o) rfl ⟨rfl, rfl⟩ ⟨Nat.le_of_ble_eq_true rfl, Nat.le_of_ble_eq_true rfl⟩ rfl ⟨Nat.zero_le _, Nat.zero_le _⟩ rfl (Nat.le_of_ble_eq_true rfl) dX9_fullestOf_53 (fun H locs hw => ?_)
              refine lv_icmp_le (tgt := 62) C.1 C.2.1 dX9_fullestOf_56 (by decide) (fun hc => ?_) (fun hc => ?_)
              · replace hf := ifp hf hc
                refine r_iinc C hl 4 (v4 + 1) [(4, .int (v4 + 1)), (0, .ref (ad 99)), (1, .int x1), (2, .int x2), (3, .int v3)] rfl (iinc_e (by decide)) (by decide) rfl dX9_fullestOf_62 (fun ls hl => ?_)
                refine lv_goto (tgt := 5) C.1 C.2.1 dX9_fullestOf_65 (by decide) ?_
                exact hk5 v3 (v4 + 1) hf _ _ hw _ (lv_sub hl [1, 2, 3, 4, 0] rfl)
              · replace hf := ifn hf hc
                refine r_iload C hl 4 rfl dX9_fullestOf_59 ?_
                refine r_istore0 C hl [(3, .int v4), (0, .ref (ad 99)), (1, .int x1), (2, .int x2), (4, .int v4)] (by decide) rfl dX9_fullestOf_61 (fun ls hl => ?_)
                refine r_iinc C hl 4 (v4 + 1) [(4, .int (v4 + 1)), (3, .int v4), (0, .ref (ad 99)), (1, .int x1), (2, .int x2)] rfl (iinc_e (by decide)) (by decide) rfl dX9_fullestOf_62 (fun ls hl => ?_)
                refine lv_goto (tgt := 5) C.1 C.2.1 dX9_fullestOf_65 (by decide) ?_
                exact hk5 v4 (v4 + 1) hf _ _ hw _ (lv_sub hl [2, 3, 4, 1, 0] rfl)
          · replace hf := ifn hf hc
            refine lv_goto (tgt := 62) C.1 C.2.1 dX9_fullestOf_37 (by decide) ?_
            refine r_iinc C hl 4 (v4 + 1) [(4, .int (v4 + 1)), (0, .ref (ad 99)), (1, .int x1), (2, .int x2), (3, .int v3)] rfl (iinc_e (by decide)) (by decide) rfl dX9_fullestOf_62 (fun ls hl => ?_)
            refine lv_goto (tgt := 5) C.1 C.2.1 dX9_fullestOf_65 (by decide) ?_
            exact hk5 v3 (v4 + 1) hf _ _ hw _ (lv_sub hl [1, 2, 3, 4, 0] rfl)
  have hL_5 : ∀ n : Nat, ∀ (v3 : Int32) (v4 : Int32), L_X9_fullestOf_5 d_ad x1 x2  n v3 v4 = some out → ∀ (H : Heap) (locs : List Loc), Wd G A s H locs (dO G ad d_ad dw ++ []) → ∀ ls : Array Slot, lv_has ls 5 [(0, .ref (ad 99)), (1, .int x1), (2, .int x2), (3, .int v3), (4, .int v4)] → W p l e ({ frames := 3, cells := 0, slots := 0, locals := 65 }) s m [.ref (ad 99), .int x1, .int x2].toArray below meth c H locs 0 0 (MQ below (Ans G out A (dO G ad d_ad dw ++ [])) [.ref (ad 99), .int x1, .int x2].toArray s 0 0 A) (F0 m 5 ls []) := by
    intro  n
    induction n with
    | zero => intro v3 v4 hf; cases hf
    | succ n ih => exact hB_5 _ ih
  unfold f_X9_fullestOf at hf
  refine lv_iconst (v := (-1)) C.1 C.2.1 dX9_fullestOf_0 (by decide) ?_
  refine r_istore0 C hl [(3, .int (-1)), (0, .ref (ad 99)), (1, .int x1), (2, .int x2)] (by decide) rfl dX9_fullestOf_1 (fun ls hl => ?_)
  refine lv_iconst (v := 0) C.1 C.2.1 dX9_fullestOf_2 (by decide) ?_
  refine r_istore C hl [(4, .int 0), (3, .int (-1)), (0, .ref (ad 99)), (1, .int x1), (2, .int x2)] (by decide) rfl dX9_fullestOf_3 (fun ls hl => ?_)
  exact hL_5  FU (-1) 0 hf _ _ hw _ (lv_sub hl [2, 3, 4, 1, 0] rfl)
set_option maxHeartbeats 4000000 in
set_option maxRecDepth 100000 in
theorem c_X9_emptiestOf (l : Launch) (G : GG) (ad : Nat → Nat) (sz : Nat) (d_ad : Pic) (dw : Int64) (x1 : Int32) (out : Int32) (hf : f_X9_emptiestOf d_ad x1 = some out) : Met l yX9_emptiestOf (.code yX9_emptiestOf cX9_emptiestOf 4 (some .int) :: BT) ({ frames := 3, cells := 0, slots := 0, locals := 65 }) (va_Pc [.ref (ad 99), .int x1] (PreW G sz (dO G ad d_ad dw ++ []))) (Ans G out (va_A (dO G ad d_ad dw ++ []) sz) (dO G ad d_ad dw ++ [])) 0 0 (va_A (dO G ad d_ad dw ++ []) sz) := by
  refine Met.into (by decide) (Nat.le_of_ble_eq_true rfl) ?_
  intro p e s m below meth c C hsz ls hl hw
  have hl : lv_has ls 4 [(0, .ref (ad 99)), (1, .int x1)] := hl
  clear hsz
  generalize va_A (dO G ad d_ad dw ++ []) sz = A at hw ⊢
  have hB_4 : ∀ (k4 : Int32 → Int32 → Option (Int32)) (hk4 : ∀ (v2 : Int32) (v3 : Int32), k4 v2 v3 = some out → ∀ (H : Heap) (locs : List Loc), Wd G A s H locs (dO G ad d_ad dw ++ []) → ∀ ls : Array Slot, lv_has ls 4 [(0, .ref (ad 99)), (1, .int x1), (2, .int v2), (3, .int v3)] → W p l e ({ frames := 3, cells := 0, slots := 0, locals := 65 }) s m [.ref (ad 99), .int x1].toArray below meth c H locs 0 0 (MQ below (Ans G out A (dO G ad d_ad dw ++ [])) [.ref (ad 99), .int x1].toArray s 0 0 A) (F0 m 4 ls [])), ∀ (v2 : Int32) (v3 : Int32), b_X9_emptiestOf_4 d_ad x1 k4 v2 v3 = some out → ∀ (H : Heap) (locs : List Loc), Wd G A s H locs (dO G ad d_ad dw ++ []) → ∀ ls : Array Slot, lv_has ls 4 [(0, .ref (ad 99)), (1, .int x1), (2, .int v2), (3, .int v3)] → W p l e ({ frames := 3, cells := 0, slots := 0, locals := 65 }) s m [.ref (ad 99), .int x1].toArray below meth c H locs 0 0 (MQ below (Ans G out A (dO G ad d_ad dw ++ [])) [.ref (ad 99), .int x1].toArray s 0 0 A) (F0 m 4 ls []) := by
    intro k4 hk4 v2 v3 hf H locs hw ls hl
    unfold b_X9_emptiestOf_4 at hf
    refine r_iload0 C hl 3 rfl dX9_emptiestOf_4 ?_
    refine lv_bipush (v := 24) C.1 C.2.1 dX9_emptiestOf_5 (by decide) ?_
    refine lv_icmp_ge (tgt := 56) C.1 C.2.1 dX9_emptiestOf_7 (by decide) (fun hc => ?_) (fun hc => ?_)
    · replace hf := ifp hf hc
      refine r_iload0 C hl 2 rfl dX9_emptiestOf_56 ?_
      exact fin_i C hw (Option.some.inj hf) (fun o => o) (fun o => (dO G ad d_ad dw ++ [])) rfl rfl dX9_emptiestOf_57
    · replace hf := ifn hf hc
      refine r_aload0 C hl 0 rfl dX9_emptiestOf_10 ?_
      refine r_iload0 C hl 3 rfl dX9_emptiestOf_11 ?_
      obtain ⟨u1, e1, hf⟩ := bx hf
      refine r_callVi (ws' := (dO G ad d_ad dw ++ [])) (As := [.int v3]) (rest := []) C hw hl.1 kX9_classOf ml_X9_310 (c_X9_classOf l G ad _ d_ad dw v3 u1 e1) (CutX.take dO_f CutX.none) _ (gx_h dO_o) rfl ⟨rfl, rfl⟩ ⟨Nat.le_of_ble_eq_true rfl, Nat.le_of_ble_eq_true rfl⟩ rfl ⟨Nat.zero_le _, Nat.zero_le _⟩ rfl (Nat.le_of_ble_eq_true rfl) dX9_emptiestOf_12 (fun H locs hw => ?_)
      refine r_iload0 C hl 1 rfl dX9_emptiestOf_15 ?_
      refine lv_icmp_ne (tgt := 50) C.1 C.2.1 dX9_emptiestOf_16 (by decide) (fun hc => ?_) (fun hc => ?_)
      · replace hf := ifn hf hc
        refine r_iinc C hl 3 (v3 + 1) [(3, .int (v3 + 1)), (0, .ref (ad 99)), (1, .int x1), (2, .int v2)] rfl (iinc_e (by decide)) (by decide) rfl dX9_emptiestOf_50 (fun ls hl => ?_)
        refine lv_goto (tgt := 4) C.1 C.2.1 dX9_emptiestOf_53 (by decide) ?_
        exact hk4 v2 (v3 + 1) hf _ _ hw _ (lv_sub hl [1, 2, 3, 0] rfl)
      · replace hf := ifp hf hc
        refine r_aload0 C hl 0 rfl dX9_emptiestOf_19 ?_
        refine r_iload0 C hl 3 rfl dX9_emptiestOf_20 ?_
        obtain ⟨u2, e2, hf⟩ := bx hf
        refine r_callVi (ws' := (dO G ad d_ad dw ++ [])) (As := [.int v3]) (rest := []) C hw hl.1 kX9_isFull ml_X9_313 (c_X9_isFull l G ad _ d_ad dw v3 u2 e2) (CutX.take dO_f CutX.none) _ (gx_h dO_o) rfl ⟨rfl, rfl⟩ ⟨Nat.le_of_ble_eq_true rfl, Nat.le_of_ble_eq_true rfl⟩ rfl ⟨Nat.zero_le _, Nat.zero_le _⟩ rfl (Nat.le_of_ble_eq_true rfl) dX9_emptiestOf_21 (fun H locs hw => ?_)
        refine lv_if_eq (tgt := 30) C.1 C.2.1 dX9_emptiestOf_24 (by decide) (fun hc => ?_) (fun hc => ?_)
        · replace hf := ifp hf hc
          refine r_iload0 C hl 2 rfl dX9_emptiestOf_30 ?_
          refine lv_iconst (v := (-1)) C.1 C.2.1 dX9_emptiestOf_31 (by decide) ?_
          refine lv_icmp_eq (tgt := 48) C.1 C.2.1 dX9_emptiestOf_32 (by decide) (fun hc => ?_) (fun hc => ?_)
          · replace hf := ifp hf hc
            refine r_iload0 C hl 3 rfl dX9_emptiestOf_48 ?_
            refine r_istore0 C hl [(2, .int v3), (0, .ref (ad 99)), (1, .int x1), (3, .int v3)] (by decide) rfl dX9_emptiestOf_49 (fun ls hl => ?_)
            refine r_iinc C hl 3 (v3 + 1) [(3, .int (v3 + 1)), (2, .int v3), (0, .ref (ad 99)), (1, .int x1)] rfl (iinc_e (by decide)) (by decide) rfl dX9_emptiestOf_50 (fun ls hl => ?_)
            refine lv_goto (tgt := 4) C.1 C.2.1 dX9_emptiestOf_53 (by decide) ?_
            exact hk4 v3 (v3 + 1) hf _ _ hw _ (lv_sub hl [2, 3, 1, 0] rfl)
          · replace hf := ifn hf hc
            refine r_aload0 C hl 0 rfl dX9_emptiestOf_35 ?_
            refine r_iload0 C hl 3 rfl dX9_emptiestOf_36 ?_
            obtain ⟨u3, e3, hf⟩ := bx hf
            refine r_callVi (ws' := (dO G ad d_ad dw ++ [])) (As := [.int v3]) (rest := []) C hw hl.1 kX9_fillOf ml_X9_307 (c_X9_fillOf l G ad _ d_ad dw v3 u3 e3) (CutX.take dO_f CutX.none) _ (gx_h dO_o) rfl ⟨rfl, rfl⟩ ⟨Nat.le_of_ble_eq_true rfl, Nat.le_of_ble_eq_true rfl⟩ rfl ⟨Nat.zero_le _, Nat.zero_le _⟩ rfl (Nat.le_of_ble_eq_true rfl) dX9_emptiestOf_37 (fun H locs hw => ?_)
            refine r_aload0 C hl 0 rfl dX9_emptiestOf_40 ?_
            refine r_iload0 C hl 2 rfl dX9_emptiestOf_41 ?_
            obtain ⟨u4, e4, hf⟩ := bx hf
            refine r_callVi (ws' := (dO G ad d_ad dw ++ [])) (As := [.int v2]) (rest := [.int u3]) C hw hl.1 kX9_fillOf ml_X9_307 (c_X9_fillOf l G ad _ d_ad dw v2 u4 e4) (CutX.take dO_f CutX.none) _ (gx_h dO_o) rfl ⟨rfl, rfl⟩ ⟨Nat.le_of_ble_eq_true rfl, Nat.le_of_ble_eq_true rfl⟩ rfl ⟨Nat.zero_le _, Nat.zero_le _⟩ rfl (Nat.le_of_ble_eq_true rfl) dX9_emptiestOf_42 (fun H locs hw => ?_)
            refine lv_icmp_gt (tgt := 50) C.1 C.2.1 dX9_emptiestOf_45 (by decide) (fun hc => ?_) (fun hc => ?_)
            · replace hf := ifp hf hc
              refine r_iinc C hl 3 (v3 + 1) [(3, .int (v3 + 1)), (0, .ref (ad 99)), (1, .int x1), (2, .int v2)] rfl (iinc_e (by decide)) (by decide) rfl dX9_emptiestOf_50 (fun ls hl => ?_)
              refine lv_goto (tgt := 4) C.1 C.2.1 dX9_emptiestOf_53 (by decide) ?_
              exact hk4 v2 (v3 + 1) hf _ _ hw _ (lv_sub hl [1, 2, 3, 0] rfl)
            · replace hf := ifn hf hc
              refine r_iload0 C hl 3 rfl dX9_emptiestOf_48 ?_
              refine r_istore0 C hl [(2, .int v3), (0, .ref (ad 99)), (1, .int x1), (3, .int v3)] (by decide) rfl dX9_emptiestOf_49 (fun ls hl => ?_)
              refine r_iinc C hl 3 (v3 + 1) [(3, .int (v3 + 1)), (2, .int v3), (0, .ref (ad 99)), (1, .int x1)] rfl (iinc_e (by decide)) (by decide) rfl dX9_emptiestOf_50 (fun ls hl => ?_)
              refine lv_goto (tgt := 4) C.1 C.2.1 dX9_emptiestOf_53 (by decide) ?_
              exact hk4 v3 (v3 + 1) hf _ _ hw _ (lv_sub hl [2, 3, 1, 0] rfl)
        · replace hf := ifn hf hc
          refine lv_goto (tgt := 50) C.1 C.2.1 dX9_emptiestOf_27 (by decide) ?_
          refine r_iinc C hl 3 (v3 + 1) [(3, .int (v3 + 1)), (0, .ref (ad 99)), (1, .int x1), (2, .int v2)] rfl (iinc_e (by decide)) (by decide) rfl dX9_emptiestOf_50 (fun ls hl => ?_)
          refine lv_goto (tgt := 4) C.1 C.2.1 dX9_emptiestOf_53 (by decide) ?_
          exact hk4 v2 (v3 + 1) hf _ _ hw _ (lv_sub hl [1, 2, 3, 0] rfl)
  have hL_4 : ∀ n : Nat, ∀ (v2 : Int32) (v3 : Int32), L_X9_emptiestOf_4 d_ad x1  n v2 v3 = some out → ∀ (H : Heap) (locs : List Loc), Wd G A s H locs (dO G ad d_ad dw ++ []) → ∀ ls : Array Slot, lv_has ls 4 [(0, .ref (ad 99)), (1, .int x1), (2, .int v2), (3, .int v3)] → W p l e ({ frames := 3, cells := 0, slots := 0, locals := 65 }) s m [.ref (ad 99), .int x1].toArray below meth c H locs 0 0 (MQ below (Ans G out A (dO G ad d_ad dw ++ [])) [.ref (ad 99), .int x1].toArray s 0 0 A) (F0 m 4 ls []) := by
    intro  n
    induction n with
    | zero => intro v2 v3 hf; cases hf
    | succ n ih => exact hB_4 _ ih
  unfold f_X9_emptiestOf at hf
  refine lv_iconst (v := (-1)) C.1 C.2.1 dX9_emptiestOf_0 (by decide) ?_
  refine r_istore0 C hl [(2, .int (-1)), (0, .ref (ad 99)), (1, .int x1)] (by decide) rfl dX9_emptiestOf_1 (fun ls hl => ?_)
  refine lv_iconst (v := 0) C.1 C.2.1 dX9_emptiestOf_2 (by decide) ?_
  refine r_istore0 C hl [(3, .int 0), (2, .int (-1)), (0, .ref (ad 99)), (1, .int x1)] (by decide) rfl dX9_emptiestOf_3 (fun ls hl => ?_)
  exact hL_4  FU (-1) 0 hf _ _ hw _ (lv_sub hl [2, 3, 1, 0] rfl)
set_option maxHeartbeats 4000000 in
set_option maxRecDepth 100000 in
theorem c_X9_zone (l : Launch) (G : GG) (ad : Nat → Nat) (sz : Nat) (d_ad : Pic) (dw : Int64) (x1 x2 : Int32) (out : Int32 × Pic) (hf : f_X9_zone d_ad x1 x2 = some out) : Met l yX9_zone (.code yX9_zone cX9_zone 3 (some .int) :: BT) ({ frames := 2, cells := 0, slots := 0, locals := 44 }) (va_Pc [.ref (ad 99), .int x1, .int x2] (PreW G sz (dO G ad d_ad dw ++ []))) (Ans G out.1 (va_A (dO G ad d_ad dw ++ []) sz) (dO G ad out.2 dw ++ [])) 0 0 (va_A (dO G ad d_ad dw ++ []) sz) := by
  refine Met.into (by decide) (Nat.le_of_ble_eq_true rfl) ?_
  intro p e s m below meth c C hsz ls hl hw
  have hl : lv_has ls 3 [(0, .ref (ad 99)), (1, .int x1), (2, .int x2)] := hl
  clear hsz
  generalize va_A (dO G ad d_ad dw ++ []) sz = A at hw ⊢
  have hB_22 : ∀ (d_ad : Pic), b_X9_zone_22 x1 x2  d_ad = some out → ∀ (H : Heap) (locs : List Loc), Wd G A s H locs (dO G ad d_ad dw ++ []) → ∀ ls : Array Slot, lv_has ls 3 [(0, .ref (ad 99))] → W p l e ({ frames := 2, cells := 0, slots := 0, locals := 44 }) s m [.ref (ad 99), .int x1, .int x2].toArray below meth c H locs 0 0 (MQ below (Ans G out.1 A (dO G ad out.2 dw ++ [])) [.ref (ad 99), .int x1, .int x2].toArray s 0 0 A) (F0 m 22 ls []) := by
    intro d_ad hf H locs hw ls hl
    unfold b_X9_zone_22 at hf
    refine r_aload0 C hl 0 rfl dX9_zone_22 ?_
    refine lv_iconst (v := 1) C.1 C.2.1 dX9_zone_23 (by decide) ?_
    obtain ⟨u3, e3, hf⟩ := bx hf
    refine r_callVi (ws' := (dO G ad u3.2 dw ++ [])) (As := [.int 1]) (rest := []) C hw hl.1 kX9_refused ml_X9_210 (c_X9_refused l G ad _ d_ad dw 1 u3 e3) (CutX.take dO_f CutX.none) _ (gx_h dO_o) rfl ⟨rfl, rfl⟩ ⟨Nat.le_of_ble_eq_true rfl, Nat.le_of_ble_eq_true rfl⟩ rfl ⟨Nat.zero_le _, Nat.zero_le _⟩ rfl (Nat.le_of_ble_eq_true rfl) dX9_zone_24 (fun H locs hw => ?_)
    exact fin_i C hw (Option.some.inj hf) (fun o => o.1) (fun o => (dO G ad o.2 dw ++ [])) rfl rfl dX9_zone_27
  have hB_62 : ∀ (d_ad : Pic) (t0 : Int32), b_X9_zone_62 x1 x2  d_ad t0 = some out → ∀ (H : Heap) (locs : List Loc), Wd G A s H locs (dO G ad d_ad dw ++ []) → ∀ ls : Array Slot, lv_has ls 3 [] → W p l e ({ frames := 2, cells := 0, slots := 0, locals := 44 }) s m [.ref (ad 99), .int x1, .int x2].toArray below meth c H locs 0 0 (MQ below (Ans G out.1 A (dO G ad out.2 dw ++ [])) [.ref (ad 99), .int x1, .int x2].toArray s 0 0 A) (F0 m 62 ls [.int t0, .ref (ad 99)]) := by
    intro d_ad t0 hf H locs hw ls hl
    unfold b_X9_zone_62 at hf
    obtain ⟨u6, e6, hf⟩ := bx hf
    refine r_callVi (ws' := (dO G ad u6.2 dw ++ [])) (As := [.int t0]) (rest := []) C hw hl.1 kX9_good ml_X9_222 (c_X9_good l G ad _ d_ad dw t0 u6 e6) (CutX.take dO_f CutX.none) _ (gx_h dO_o) rfl ⟨rfl, rfl⟩ ⟨Nat.le_of_ble_eq_true rfl, Nat.le_of_ble_eq_true rfl⟩ rfl ⟨Nat.zero_le _, Nat.zero_le _⟩ rfl (Nat.le_of_ble_eq_true rfl) dX9_zone_62 (fun H locs hw => ?_)
    exact fin_i C hw (Option.some.inj hf) (fun o => o.1) (fun o => (dO G ad o.2 dw ++ [])) rfl rfl dX9_zone_65
  unfold f_X9_zone at hf
  refine r_aload0 C hl 0 rfl dX9_zone_0 ?_
  refine lv_iconst (v := 0) C.1 C.2.1 dX9_zone_1 (by decide) ?_
  obtain ⟨d_ad1, e1, hf⟩ := bx hf
  refine r_put C hw _ (gx_h dO_o) 0 fp_X9_75 rfl rfl (Nat.le_of_ble_eq_true rfl) (dO G ad d_ad1 dw ++ []) (sx_h dO_o (dO_p0 e1)) dX9_zone_2 (fun H locs hw => ?_)
  refine r_aload0 C hl 0 rfl dX9_zone_5 ?_
  refine r_iload0 C hl 1 rfl dX9_zone_6 ?_
  obtain ⟨u2, e2, hf⟩ := bx hf
  refine r_callVi (ws' := (dO G ad d_ad1 dw ++ [])) (As := [.int x1]) (rest := []) C hw hl.1 kX9_isZone ml_X9_316 (c_X9_isZone l G ad _ d_ad1 dw x1 u2 e2) (CutX.take dO_f CutX.none) _ (gx_h dO_o) rfl ⟨rfl, rfl⟩ ⟨Nat.le_of_ble_eq_true rfl, Nat.le_of_ble_eq_true rfl⟩ rfl ⟨Nat.zero_le _, Nat.zero_le _⟩ rfl (Nat.le_of_ble_eq_true rfl) dX9_zone_7 (fun H locs hw => ?_)
  refine lv_if_eq (tgt := 22) C.1 C.2.1 dX9_zone_10 (by decide) (fun hc => ?_) (fun hc => ?_)
  · replace hf := ifp hf hc
    exact hB_22  d_ad1 hf _ _ hw _ (lv_sub hl [0] rfl)
  · replace hf := ifn hf hc
    refine r_iload0 C hl 2 rfl dX9_zone_13 ?_
    refine lv_iconst (v := 0) C.1 C.2.1 dX9_zone_14 (by decide) ?_
    refine lv_iconst (v := 2) C.1 C.2.1 dX9_zone_15 (by decide) ?_
    obtain ⟨u4, e4, hf⟩ := bx hf
    refine r_callSi (ws' := (dO G ad d_ad1 dw ++ [])) (As := [.int x2, .int 0, .int 2]) (rest := []) C hw hl.1 kX9_in ml_X9_100 (c_X9_in l G _ x2 0 2 u4 e4) CutX.none ⟨rfl, rfl⟩ ⟨Nat.le_of_ble_eq_true rfl, Nat.le_of_ble_eq_true rfl⟩ rfl ⟨Nat.zero_le _, Nat.zero_le _⟩ rfl (Nat.le_of_ble_eq_true rfl) dX9_zone_16 (fun H locs hw => ?_)
    refine lv_if_ne (tgt := 28) C.1 C.2.1 dX9_zone_19 (by decide) (fun hc => ?_) (fun hc => ?_)
    · replace hf := ifn hf hc
      refine r_aload0 C hl 0 rfl dX9_zone_28 ?_
      refine r_iload0 C hl 2 rfl dX9_zone_29 ?_
      refine lv_if_ne (tgt := 41) C.1 C.2.1 dX9_zone_30 (by decide) (fun hc => ?_) (fun hc => ?_)
      · replace hf := ifn hf hc
        refine r_iload0 C hl 2 rfl dX9_zone_41 ?_
        refine lv_iconst (v := 1) C.1 C.2.1 dX9_zone_42 (by decide) ?_
        refine lv_icmp_ne (tgt := 57) C.1 C.2.1 dX9_zone_43 (by decide) (fun hc => ?_) (fun hc => ?_)
        · replace hf := ifn hf hc
          refine r_aload0 C hl 0 rfl dX9_zone_57 ?_
          refine r_iload0 C hl 1 rfl dX9_zone_58 ?_
          obtain ⟨u5, e5, hf⟩ := bx hf
          refine r_callVi (ws' := (dO G ad d_ad1 dw ++ [])) (As := [.int x1]) (rest := [.ref (ad 99)]) C hw hl.1 kX9_fillOf ml_X9_307 (c_X9_fillOf l G ad _ d_ad1 dw x1 u5 e5) (CutX.take dO_f CutX.none) _ (gx_h dO_o) rfl ⟨rfl, rfl⟩ ⟨Nat.le_of_ble_eq_true rfl, Nat.le_of_ble_eq_true rfl⟩ rfl ⟨Nat.zero_le _, Nat.zero_le _⟩ rfl (Nat.le_of_ble_eq_true rfl) dX9_zone_59 (fun H locs hw => ?_)
          exact hB_62  d_ad1 u5 hf _ _ hw _ (lv_sub hl [] rfl)
        · replace hf := ifp hf hc
          refine r_aload0 C hl 0 rfl dX9_zone_46 ?_
          refine r_iload0 C hl 1 rfl dX9_zone_47 ?_
          obtain ⟨u7, e7, hf⟩ := bx hf
          refine r_callVi (ws' := (dO G ad d_ad1 dw ++ [])) (As := [.int x1]) (rest := [.ref (ad 99)]) C hw hl.1 kX9_classOf ml_X9_310 (c_X9_classOf l G ad _ d_ad1 dw x1 u7 e7) (CutX.take dO_f CutX.none) _ (gx_h dO_o) rfl ⟨rfl, rfl⟩ ⟨Nat.le_of_ble_eq_true rfl, Nat.le_of_ble_eq_true rfl⟩ rfl ⟨Nat.zero_le _, Nat.zero_le _⟩ rfl (Nat.le_of_ble_eq_true rfl) dX9_zone_48 (fun H locs hw => ?_)
          obtain ⟨u8, e8, hf⟩ := bx hf
          refine r_callSi (ws' := (dO G ad d_ad1 dw ++ [])) (As := [.int u7]) (rest := [.ref (ad 99)]) C hw hl.1 kX9_framesOf ml_X9_286 (c_X9_framesOf l G _ u7 u8 e8) CutX.none ⟨rfl, rfl⟩ ⟨Nat.le_of_ble_eq_true rfl, Nat.le_of_ble_eq_true rfl⟩ rfl ⟨Nat.zero_le _, Nat.zero_le _⟩ rfl (Nat.le_of_ble_eq_true rfl) dX9_zone_51 (fun H locs hw => ?_)
          refine lv_goto (tgt := 62) C.1 C.2.1 dX9_zone_54 (by decide) ?_
          exact hB_62  d_ad1 u8 hf _ _ hw _ (lv_sub hl [] rfl)
      · replace hf := ifp hf hc
        refine r_aload0 C hl 0 rfl dX9_zone_33 ?_
        refine r_iload0 C hl 1 rfl dX9_zone_34 ?_
        obtain ⟨u9, e9, hf⟩ := bx hf
        refine r_callVi (ws' := (dO G ad d_ad1 dw ++ [])) (As := [.int x1]) (rest := [.ref (ad 99)]) C hw hl.1 kX9_classOf ml_X9_310 (c_X9_classOf l G ad _ d_ad1 dw x1 u9 e9) (CutX.take dO_f CutX.none) _ (gx_h dO_o) rfl ⟨rfl, rfl⟩ ⟨Nat.le_of_ble_eq_true rfl, Nat.le_of_ble_eq_true rfl⟩ rfl ⟨Nat.zero_le _, Nat.zero_le _⟩ rfl (Nat.le_of_ble_eq_true rfl) dX9_zone_35 (fun H locs hw => ?_)
        refine lv_goto (tgt := 62) C.1 C.2.1 dX9_zone_38 (by decide) ?_
        exact hB_62  d_ad1 u9 hf _ _ hw _ (lv_sub hl [] rfl)
    · replace hf := ifp hf hc
      exact hB_22  d_ad1 hf _ _ hw _ (lv_sub hl [0] rfl)
set_option maxHeartbeats 4000000 in
set_option maxRecDepth 100000 in
theorem c_X9_slot (l : Launch) (G : GG) (ad : Nat → Nat) (sz : Nat) (d_ad : Pic) (dw : Int64) (x1 x2 : Int32) (out : Int32 × Pic) (hf : f_X9_slot d_ad x1 x2 = some out) : Met l yX9_slot (.code yX9_slot cX9_slot 3 (some .int) :: BT) ({ frames := 2, cells := 0, slots := 0, locals := 43 }) (va_Pc [.ref (ad 99), .int x1, .int x2] (PreW G sz (dO G ad d_ad dw ++ []))) (Ans G out.1 (va_A (dO G ad d_ad dw ++ []) sz) (dO G ad out.2 dw ++ [])) 0 0 (va_A (dO G ad d_ad dw ++ []) sz) := by
  refine Met.into (by decide) (Nat.le_of_ble_eq_true rfl) ?_
  intro p e s m below meth c C hsz ls hl hw
  have hl : lv_has ls 3 [(0, .ref (ad 99)), (1, .int x1), (2, .int x2)] := hl
  clear hsz
  generalize va_A (dO G ad d_ad dw ++ []) sz = A at hw ⊢
  have hB_29 : ∀ (d_ad : Pic), b_X9_slot_29 x1 x2  d_ad = some out → ∀ (H : Heap) (locs : List Loc), Wd G A s H locs (dO G ad d_ad dw ++ []) → ∀ ls : Array Slot, lv_has ls 3 [(0, .ref (ad 99))] → W p l e ({ frames := 2, cells := 0, slots := 0, locals := 43 }) s m [.ref (ad 99), .int x1, .int x2].toArray below meth c H locs 0 0 (MQ below (Ans G out.1 A (dO G ad out.2 dw ++ [])) [.ref (ad 99), .int x1, .int x2].toArray s 0 0 A) (F0 m 29 ls []) := by
    intro d_ad hf H locs hw ls hl
    unfold b_X9_slot_29 at hf
    refine r_aload0 C hl 0 rfl dX9_slot_29 ?_
    refine lv_iconst (v := 1) C.1 C.2.1 dX9_slot_30 (by decide) ?_
    obtain ⟨u3, e3, hf⟩ := bx hf
    refine r_callVi (ws' := (dO G ad u3.2 dw ++ [])) (As := [.int 1]) (rest := []) C hw hl.1 kX9_refused ml_X9_210 (c_X9_refused l G ad _ d_ad dw 1 u3 e3) (CutX.take dO_f CutX.none) _ (gx_h dO_o) rfl ⟨rfl, rfl⟩ ⟨Nat.le_of_ble_eq_true rfl, Nat.le_of_ble_eq_true rfl⟩ rfl ⟨Nat.zero_le _, Nat.zero_le _⟩ rfl (Nat.le_of_ble_eq_true rfl) dX9_slot_31 (fun H locs hw => ?_)
    exact fin_i C hw (Option.some.inj hf) (fun o => o.1) (fun o => (dO G ad o.2 dw ++ [])) rfl rfl dX9_slot_34
  have hB_66 : ∀ (d_ad : Pic) (t0 : Int32), b_X9_slot_66 x1 x2  d_ad t0 = some out → ∀ (H : Heap) (locs : List Loc), Wd G A s H locs (dO G ad d_ad dw ++ []) → ∀ ls : Array Slot, lv_has ls 3 [] → W p l e ({ frames := 2, cells := 0, slots := 0, locals := 43 }) s m [.ref (ad 99), .int x1, .int x2].toArray below meth c H locs 0 0 (MQ below (Ans G out.1 A (dO G ad out.2 dw ++ [])) [.ref (ad 99), .int x1, .int x2].toArray s 0 0 A) (F0 m 66 ls [.int t0, .ref (ad 99)]) := by
    intro d_ad t0 hf H locs hw ls hl
    unfold b_X9_slot_66 at hf
    obtain ⟨u10, e10, hf⟩ := bx hf
    refine r_callVi (ws' := (dO G ad u10.2 dw ++ [])) (As := [.int t0]) (rest := []) C hw hl.1 kX9_good ml_X9_222 (c_X9_good l G ad _ d_ad dw t0 u10 e10) (CutX.take dO_f CutX.none) _ (gx_h dO_o) rfl ⟨rfl, rfl⟩ ⟨Nat.le_of_ble_eq_true rfl, Nat.le_of_ble_eq_true rfl⟩ rfl ⟨Nat.zero_le _, Nat.zero_le _⟩ rfl (Nat.le_of_ble_eq_true rfl) dX9_slot_66 (fun H locs hw => ?_)
    exact fin_i C hw (Option.some.inj hf) (fun o => o.1) (fun o => (dO G ad o.2 dw ++ [])) rfl rfl dX9_slot_69
  unfold f_X9_slot at hf
  refine r_aload0 C hl 0 rfl dX9_slot_0 ?_
  refine lv_iconst (v := 0) C.1 C.2.1 dX9_slot_1 (by decide) ?_
  obtain ⟨d_ad1, e1, hf⟩ := bx hf
  refine r_put C hw _ (gx_h dO_o) 0 fp_X9_75 rfl rfl (Nat.le_of_ble_eq_true rfl) (dO G ad d_ad1 dw ++ []) (sx_h dO_o (dO_p0 e1)) dX9_slot_2 (fun H locs hw => ?_)
  refine r_aload0 C hl 0 rfl dX9_slot_5 ?_
  refine r_iload0 C hl 1 rfl dX9_slot_6 ?_
  obtain ⟨u2, e2, hf⟩ := bx hf
  refine r_callVi (ws' := (dO G ad d_ad1 dw ++ [])) (As := [.int x1]) (rest := []) C hw hl.1 kX9_isZone ml_X9_316 (c_X9_isZone l G ad _ d_ad1 dw x1 u2 e2) (CutX.take dO_f CutX.none) _ (gx_h dO_o) rfl ⟨rfl, rfl⟩ ⟨Nat.le_of_ble_eq_true rfl, Nat.le_of_ble_eq_true rfl⟩ rfl ⟨Nat.zero_le _, Nat.zero_le _⟩ rfl (Nat.le_of_ble_eq_true rfl) dX9_slot_7 (fun H locs hw => ?_)
  refine lv_if_eq (tgt := 29) C.1 C.2.1 dX9_slot_10 (by decide) (fun hc => ?_) (fun hc => ?_)
  · replace hf := ifp hf hc
    exact hB_29  d_ad1 hf _ _ hw _ (lv_sub hl [0] rfl)
  · replace hf := ifn hf hc
    refine r_iload0 C hl 2 rfl dX9_slot_13 ?_
    refine lv_if_lt (tgt := 29) C.1 C.2.1 dX9_slot_14 (by decide) (fun hc => ?_) (fun hc => ?_)
    · replace hf := ifp hf hc
      exact hB_29  d_ad1 hf _ _ hw _ (lv_sub hl [0] rfl)
    · replace hf := ifn hf hc
      refine r_iload0 C hl 2 rfl dX9_slot_17 ?_
      refine r_aload0 C hl 0 rfl dX9_slot_18 ?_
      refine r_iload0 C hl 1 rfl dX9_slot_19 ?_
      obtain ⟨u4, e4, hf⟩ := bx hf
      refine r_callVi (ws' := (dO G ad d_ad1 dw ++ [])) (As := [.int x1]) (rest := [.int x2]) C hw hl.1 kX9_classOf ml_X9_310 (c_X9_classOf l G ad _ d_ad1 dw x1 u4 e4) (CutX.take dO_f CutX.none) _ (gx_h dO_o) rfl ⟨rfl, rfl⟩ ⟨Nat.le_of_ble_eq_true rfl, Nat.le_of_ble_eq_true rfl⟩ rfl ⟨Nat.zero_le _, Nat.zero_le _⟩ rfl (Nat.le_of_ble_eq_true rfl) dX9_slot_20 (fun H locs hw => ?_)
      obtain ⟨u5, e5, hf⟩ := bx hf
      refine r_callSi (ws' := (dO G ad d_ad1 dw ++ [])) (As := [.int u4]) (rest := [.int x2]) C hw hl.1 kX9_slotsOf ml_X9_295 (c_X9_slotsOf l G _ u4 u5 e5) CutX.none ⟨rfl, rfl⟩ ⟨Nat.le_of_ble_eq_true rfl, Nat.le_of_ble_eq_true rfl⟩ rfl ⟨Nat.zero_le _, Nat.zero_le _⟩ rfl (Nat.le_of_ble_eq_true rfl) dX9_slot_23 (fun H locs hw => ?_)
      refine lv_icmp_lt (tgt := 35) C.1 C.2.1 dX9_slot_26 (by decide) (fun hc => ?_) (fun hc => ?_)
      · replace hf := ifp hf hc
        refine r_aload0 C hl 0 rfl dX9_slot_35 ?_
        refine r_aload0 C hl 0 rfl dX9_slot_36 ?_
        refine r_get C hw _ (gx_h dO_o) 20 fl_X9_35 rfl dX9_slot_37 ?_
        refine r_iload0 C hl 1 rfl dX9_slot_40 ?_
        refine r_iload0 C hl 2 rfl dX9_slot_41 ?_
        obtain ⟨u6, e6, hf⟩ := bx hf
        refine r_callSi (ws' := (dO G ad d_ad1 dw ++ [])) (As := [.int x1, .int x2]) (rest := [.ref (ad 20), .ref (ad 99)]) C hw hl.1 kX9_slotAt ml_X9_304 (c_X9_slotAt l G _ x1 x2 u6 e6) CutX.none ⟨rfl, rfl⟩ ⟨Nat.le_of_ble_eq_true rfl, Nat.le_of_ble_eq_true rfl⟩ rfl ⟨Nat.zero_le _, Nat.zero_le _⟩ rfl (Nat.le_of_ble_eq_true rfl) dX9_slot_42 (fun H locs hw => ?_)
        obtain ⟨v7_, e7, hf⟩ := bx hf
        refine r_iald C hw _ (gx_h dO_g20) e7 dX9_slot_45 ?_
        refine lv_if_ne (tgt := 54) C.1 C.2.1 dX9_slot_46 (by decide) (fun hc => ?_) (fun hc => ?_)
        · replace hf := ifn hf hc
          refine r_aload0 C hl 0 rfl dX9_slot_54 ?_
          refine r_get C hw _ (gx_h dO_o) 20 fl_X9_35 rfl dX9_slot_55 ?_
          refine r_iload0 C hl 1 rfl dX9_slot_58 ?_
          refine r_iload0 C hl 2 rfl dX9_slot_59 ?_
          obtain ⟨u8, e8, hf⟩ := bx hf
          refine r_callSi (ws' := (dO G ad d_ad1 dw ++ [])) (As := [.int x1, .int x2]) (rest := [.ref (ad 20), .ref (ad 99)]) C hw hl.1 kX9_slotAt ml_X9_304 (c_X9_slotAt l G _ x1 x2 u8 e8) CutX.none ⟨rfl, rfl⟩ ⟨Nat.le_of_ble_eq_true rfl, Nat.le_of_ble_eq_true rfl⟩ rfl ⟨Nat.zero_le _, Nat.zero_le _⟩ rfl (Nat.le_of_ble_eq_true rfl) dX9_slot_60 (fun H locs hw => ?_)
          obtain ⟨v9_, e9, hf⟩ := bx hf
          refine r_iald C hw _ (gx_h dO_g20) e9 dX9_slot_63 ?_
          refine lv_iconst (v := 1) C.1 C.2.1 dX9_slot_64 (by decide) ?_
          refine lv_isub C.1 C.2.1 dX9_slot_65 ?_
          exact hB_66  d_ad1 (v9_ - 1) hf _ _ hw _ (lv_sub hl [] rfl)
        · replace hf := ifp hf hc
          refine lv_bipush (v := (-2)) C.1 C.2.1 dX9_slot_49 (by decide) ?_
          refine lv_goto (tgt := 66) C.1 C.2.1 dX9_slot_51 (by decide) ?_
          exact hB_66  d_ad1 (-2) hf _ _ hw _ (lv_sub hl [] rfl)
      · replace hf := ifn hf hc
        exact hB_29  d_ad1 hf _ _ hw _ (lv_sub hl [0] rfl)
set_option maxHeartbeats 4000000 in
set_option maxRecDepth 100000 in
theorem c_X9_isPage (l : Launch) (G : GG) (ad : Nat → Nat) (sz : Nat) (d_ad : Pic) (dw : Int64) (x1 : Int32) (out : Int32) (hf : f_X9_isPage d_ad x1 = some out) : Met l yX9_isPage (.code yX9_isPage cX9_isPage 2 (some .boolean) :: BT) ({ frames := 1, cells := 0, slots := 0, locals := 22 }) (va_Pc [.ref (ad 99), .int x1] (PreW G sz (dO G ad d_ad dw ++ []))) (Ans G out (va_A (dO G ad d_ad dw ++ []) sz) (dO G ad d_ad dw ++ [])) 0 0 (va_A (dO G ad d_ad dw ++ []) sz) := by
  refine Met.into (by decide) (Nat.le_of_ble_eq_true rfl) ?_
  intro p e s m below meth c C hsz ls hl hw
  have hl : lv_has ls 2 [(0, .ref (ad 99)), (1, .int x1)] := hl
  clear hsz
  generalize va_A (dO G ad d_ad dw ++ []) sz = A at hw ⊢
  unfold f_X9_isPage at hf
  refine r_aload0 C hl 0 rfl dX9_isPage_0 ?_
  refine r_get C hw _ (gx_h dO_o) 19 fl_X9_225 rfl dX9_isPage_1 ?_
  refine lv_if_eq (tgt := 21) C.1 C.2.1 dX9_isPage_4 (by decide) (fun hc => ?_) (fun hc => ?_)
  · replace hf := ifp hf hc
    refine lv_iconst (v := 0) C.1 C.2.1 dX9_isPage_21 (by decide) ?_
    exact fin_z C hw (by decide) (Option.some.inj hf) (fun o => o) (fun o => (dO G ad d_ad dw ++ [])) rfl rfl dX9_isPage_22
  · replace hf := ifn hf hc
    refine r_iload0 C hl 1 rfl dX9_isPage_7 ?_
    refine lv_iconst (v := 0) C.1 C.2.1 dX9_isPage_8 (by decide) ?_
    refine lv_bipush (v := 29) C.1 C.2.1 dX9_isPage_9 (by decide) ?_
    obtain ⟨u1, e1, hf⟩ := bx hf
    refine r_callSi (ws' := (dO G ad d_ad dw ++ [])) (As := [.int x1, .int 0, .int 29]) (rest := []) C hw hl.1 kX9_in ml_X9_100 (c_X9_in l G _ x1 0 29 u1 e1) CutX.none ⟨rfl, rfl⟩ ⟨Nat.le_of_ble_eq_true rfl, Nat.le_of_ble_eq_true rfl⟩ rfl ⟨Nat.zero_le _, Nat.zero_le _⟩ rfl (Nat.le_of_ble_eq_true rfl) dX9_isPage_11 (fun H locs hw => ?_)
    refine lv_if_eq (tgt := 21) C.1 C.2.1 dX9_isPage_14 (by decide) (fun hc => ?_) (fun hc => ?_)
    · replace hf := ifp hf hc
      refine lv_iconst (v := 0) C.1 C.2.1 dX9_isPage_21 (by decide) ?_
      exact fin_z C hw (by decide) (Option.some.inj hf) (fun o => o) (fun o => (dO G ad d_ad dw ++ [])) rfl rfl dX9_isPage_22
    · replace hf := ifn hf hc
      refine lv_iconst (v := 1) C.1 C.2.1 dX9_isPage_17 (by decide) ?_
      refine lv_goto (tgt := 22) C.1 C.2.1 dX9_isPage_18 (by decide) ?_
      exact fin_z C hw (by decide) (Option.some.inj hf) (fun o => o) (fun o => (dO G ad d_ad dw ++ [])) rfl rfl dX9_isPage_22
set_option maxHeartbeats 4000000 in
set_option maxRecDepth 100000 in
theorem c_X9_placeOf (l : Launch) (G : GG) (ad : Nat → Nat) (sz : Nat) (d_ad : Pic) (dw : Int64) (x1 : Int32) (out : Int32) (hf : f_X9_placeOf d_ad x1 = some out) : Met l yX9_placeOf (.code yX9_placeOf cX9_placeOf 2 (some .int) :: BT) ({ frames := 0, cells := 0, slots := 0, locals := 0 }) (va_Pc [.ref (ad 99), .int x1] (PreW G sz (dO G ad d_ad dw ++ []))) (Ans G out (va_A (dO G ad d_ad dw ++ []) sz) (dO G ad d_ad dw ++ [])) 0 0 (va_A (dO G ad d_ad dw ++ []) sz) := by
  refine Met.into (by decide) (Nat.le_of_ble_eq_true rfl) ?_
  intro p e s m below meth c C hsz ls hl hw
  have hl : lv_has ls 2 [(0, .ref (ad 99)), (1, .int x1)] := hl
  clear hsz
  generalize va_A (dO G ad d_ad dw ++ []) sz = A at hw ⊢
  unfold f_X9_placeOf at hf
  refine r_aload0 C hl 0 rfl dX9_placeOf_0 ?_
  refine r_get C hw _ (gx_h dO_o) 20 fl_X9_35 rfl dX9_placeOf_1 ?_
  refine lv_sipush (v := 165) C.1 C.2.1 dX9_placeOf_4 (by decide) ?_
  refine r_iload0 C hl 1 rfl dX9_placeOf_7 ?_
  refine lv_iadd C.1 C.2.1 dX9_placeOf_8 ?_
  obtain ⟨v1_, e1, hf⟩ := bx hf
  refine r_iald C hw _ (gx_h dO_g20) e1 dX9_placeOf_9 ?_
  exact fin_i C hw (Option.some.inj hf) (fun o => o) (fun o => (dO G ad d_ad dw ++ [])) rfl rfl dX9_placeOf_10
set_option maxHeartbeats 4000000 in
set_option maxRecDepth 100000 in
theorem c_X9_ageOf (l : Launch) (G : GG) (ad : Nat → Nat) (sz : Nat) (d_ad : Pic) (dw : Int64) (x1 : Int32) (out : Int32) (hf : f_X9_ageOf d_ad x1 = some out) : Met l yX9_ageOf (.code yX9_ageOf cX9_ageOf 3 (some .int) :: BT) ({ frames := 0, cells := 0, slots := 0, locals := 0 }) (va_Pc [.ref (ad 99), .int x1] (PreW G sz (dO G ad d_ad dw ++ []))) (Ans G out (va_A (dO G ad d_ad dw ++ []) sz) (dO G ad d_ad dw ++ [])) 0 0 (va_A (dO G ad d_ad dw ++ []) sz) := by
  refine Met.into (by decide) (Nat.le_of_ble_eq_true rfl) ?_
  intro p e s m below meth c C hsz ls hl hw
  have hl : lv_has ls 3 [(0, .ref (ad 99)), (1, .int x1)] := hl
  clear hsz
  generalize va_A (dO G ad d_ad dw ++ []) sz = A at hw ⊢
  have hB_2 : ∀ (k2 : Int32 → Option (Int32)) (hk2 : ∀ (v2 : Int32), k2 v2 = some out → ∀ (H : Heap) (locs : List Loc), Wd G A s H locs (dO G ad d_ad dw ++ []) → ∀ ls : Array Slot, lv_has ls 3 [(0, .ref (ad 99)), (1, .int x1), (2, .int v2)] → W p l e ({ frames := 0, cells := 0, slots := 0, locals := 0 }) s m [.ref (ad 99), .int x1].toArray below meth c H locs 0 0 (MQ below (Ans G out A (dO G ad d_ad dw ++ [])) [.ref (ad 99), .int x1].toArray s 0 0 A) (F0 m 2 ls [])), ∀ (v2 : Int32), b_X9_ageOf_2 d_ad x1 k2 v2 = some out → ∀ (H : Heap) (locs : List Loc), Wd G A s H locs (dO G ad d_ad dw ++ []) → ∀ ls : Array Slot, lv_has ls 3 [(0, .ref (ad 99)), (1, .int x1), (2, .int v2)] → W p l e ({ frames := 0, cells := 0, slots := 0, locals := 0 }) s m [.ref (ad 99), .int x1].toArray below meth c H locs 0 0 (MQ below (Ans G out A (dO G ad d_ad dw ++ [])) [.ref (ad 99), .int x1].toArray s 0 0 A) (F0 m 2 ls []) := by
    intro k2 hk2 v2 hf H locs hw ls hl
    unfold b_X9_ageOf_2 at hf
    refine r_iload0 C hl 2 rfl dX9_ageOf_2 ?_
    refine r_aload0 C hl 0 rfl dX9_ageOf_3 ?_
    refine r_get C hw _ (gx_h dO_o) 20 fl_X9_35 rfl dX9_ageOf_4 ?_
    refine lv_sipush (v := 315) C.1 C.2.1 dX9_ageOf_7 (by decide) ?_
    obtain ⟨v1_, e1, hf⟩ := bx hf
    refine r_iald C hw _ (gx_h dO_g20) e1 dX9_ageOf_10 ?_
    refine lv_icmp_ge (tgt := 36) C.1 C.2.1 dX9_ageOf_11 (by decide) (fun hc => ?_) (fun hc => ?_)
    · replace hf := ifp hf hc
      refine lv_iconst (v := (-1)) C.1 C.2.1 dX9_ageOf_36 (by decide) ?_
      exact fin_i C hw (Option.some.inj hf) (fun o => o) (fun o => (dO G ad d_ad dw ++ [])) rfl rfl dX9_ageOf_37
    · replace hf := ifn hf hc
      refine r_aload0 C hl 0 rfl dX9_ageOf_14 ?_
      refine r_get C hw _ (gx_h dO_o) 20 fl_X9_35 rfl dX9_ageOf_15 ?_
      refine lv_sipush (v := 285) C.1 C.2.1 dX9_ageOf_18 (by decide) ?_
      refine r_iload0 C hl 2 rfl dX9_ageOf_21 ?_
      refine lv_iadd C.1 C.2.1 dX9_ageOf_22 ?_
      obtain ⟨v2_, e2, hf⟩ := bx hf
      refine r_iald C hw _ (gx_h dO_g20) e2 dX9_ageOf_23 ?_
      refine r_iload0 C hl 1 rfl dX9_ageOf_24 ?_
      refine lv_icmp_ne (tgt := 30) C.1 C.2.1 dX9_ageOf_25 (by decide) (fun hc => ?_) (fun hc => ?_)
      · replace hf := ifn hf hc
        refine r_iinc C hl 2 (v2 + 1) [(2, .int (v2 + 1)), (0, .ref (ad 99)), (1, .int x1)] rfl (iinc_e (by decide)) (by decide) rfl dX9_ageOf_30 (fun ls hl => ?_)
        refine lv_goto (tgt := 2) C.1 C.2.1 dX9_ageOf_33 (by decide) ?_
        exact hk2 (v2 + 1) hf _ _ hw _ (lv_sub hl [1, 2, 0] rfl)
      · replace hf := ifp hf hc
        refine r_iload0 C hl 2 rfl dX9_ageOf_28 ?_
        exact fin_i C hw (Option.some.inj hf) (fun o => o) (fun o => (dO G ad d_ad dw ++ [])) rfl rfl dX9_ageOf_29
  have hL_2 : ∀ n : Nat, ∀ (v2 : Int32), L_X9_ageOf_2 d_ad x1  n v2 = some out → ∀ (H : Heap) (locs : List Loc), Wd G A s H locs (dO G ad d_ad dw ++ []) → ∀ ls : Array Slot, lv_has ls 3 [(0, .ref (ad 99)), (1, .int x1), (2, .int v2)] → W p l e ({ frames := 0, cells := 0, slots := 0, locals := 0 }) s m [.ref (ad 99), .int x1].toArray below meth c H locs 0 0 (MQ below (Ans G out A (dO G ad d_ad dw ++ [])) [.ref (ad 99), .int x1].toArray s 0 0 A) (F0 m 2 ls []) := by
    intro  n
    induction n with
    | zero => intro v2 hf; cases hf
    | succ n ih => exact hB_2 _ ih
  unfold f_X9_ageOf at hf
  refine lv_iconst (v := 0) C.1 C.2.1 dX9_ageOf_0 (by decide) ?_
  refine r_istore0 C hl [(2, .int 0), (0, .ref (ad 99)), (1, .int x1)] (by decide) rfl dX9_ageOf_1 (fun ls hl => ?_)
  exact hL_2  FU 0 hf _ _ hw _ (lv_sub hl [1, 2, 0] rfl)
set_option maxHeartbeats 4000000 in
set_option maxRecDepth 100000 in
theorem c_X9_growsOld (l : Launch) (G : GG) (ad : Nat → Nat) (sz : Nat) (d_ad : Pic) (dw : Int64) (x1 : Int32) (out : Pic) (hf : f_X9_growsOld d_ad x1 = some out) : Met l yX9_growsOld (.code yX9_growsOld cX9_growsOld 2 none :: BT) ({ frames := 0, cells := 0, slots := 0, locals := 0 }) (va_Pc [.ref (ad 99), .int x1] (PreW G sz (dO G ad d_ad dw ++ []))) (Don G (va_A (dO G ad d_ad dw ++ []) sz) (dO G ad out dw ++ [])) 0 0 (va_A (dO G ad d_ad dw ++ []) sz) := by
  refine Met.into (by decide) (Nat.le_of_ble_eq_true rfl) ?_
  intro p e s m below meth c C hsz ls hl hw
  have hl : lv_has ls 2 [(0, .ref (ad 99)), (1, .int x1)] := hl
  clear hsz
  generalize va_A (dO G ad d_ad dw ++ []) sz = A at hw ⊢
  unfold f_X9_growsOld at hf
  refine r_aload0 C hl 0 rfl dX9_growsOld_0 ?_
  refine r_get C hw _ (gx_h dO_o) 20 fl_X9_35 rfl dX9_growsOld_1 ?_
  refine lv_sipush (v := 285) C.1 C.2.1 dX9_growsOld_4 (by decide) ?_
  refine r_aload0 C hl 0 rfl dX9_growsOld_7 ?_
  refine r_get C hw _ (gx_h dO_o) 20 fl_X9_35 rfl dX9_growsOld_8 ?_
  refine lv_sipush (v := 315) C.1 C.2.1 dX9_growsOld_11 (by decide) ?_
  obtain ⟨v1_, e1, hf⟩ := bx hf
  refine r_iald C hw _ (gx_h dO_g20) e1 dX9_growsOld_14 ?_
  refine lv_iadd C.1 C.2.1 dX9_growsOld_15 ?_
  refine r_iload0 C hl 1 rfl dX9_growsOld_16 ?_
  obtain ⟨d_ad2, e2, hf⟩ := bx hf
  refine r_iast C hw _ (gx_h dO_g20) e2 (dO G ad d_ad2 dw ++ []) (fun h => (sx_h dO_g20 (dO_s20 h))) dX9_growsOld_17 (fun H locs hw => ?_)
  refine r_aload0 C hl 0 rfl dX9_growsOld_18 ?_
  refine r_get C hw _ (gx_h dO_o) 20 fl_X9_35 rfl dX9_growsOld_19 ?_
  refine lv_sipush (v := 315) C.1 C.2.1 dX9_growsOld_22 (by decide) ?_
  refine lv_dup2_11 C.1 C.2.1 dX9_growsOld_25 rfl rfl ?_
  obtain ⟨v3_, e3, hf⟩ := bx hf
  refine r_iald C hw _ (gx_h dO_g20) e3 dX9_growsOld_26 ?_
  refine lv_iconst (v := 1) C.1 C.2.1 dX9_growsOld_27 (by decide) ?_
  refine lv_iadd C.1 C.2.1 dX9_growsOld_28 ?_
  obtain ⟨d_ad4, e4, hf⟩ := bx hf
  refine r_iast C hw _ (gx_h dO_g20) e4 (dO G ad d_ad4 dw ++ []) (fun h => (sx_h dO_g20 (dO_s20 h))) dX9_growsOld_29 (fun H locs hw => ?_)
  exact fin_v C hw (Option.some.inj hf) (fun o => (dO G ad o dw ++ [])) rfl dX9_growsOld_30
set_option maxHeartbeats 4000000 in
set_option maxRecDepth 100000 in
theorem c_X9_forgets (l : Launch) (G : GG) (ad : Nat → Nat) (sz : Nat) (d_ad : Pic) (dw : Int64) (x1 : Int32) (out : Pic) (hf : f_X9_forgets d_ad x1 = some out) : Met l yX9_forgets (.code yX9_forgets cX9_forgets 4 none :: BT) ({ frames := 1, cells := 0, slots := 0, locals := 22 }) (va_Pc [.ref (ad 99), .int x1] (PreW G sz (dO G ad d_ad dw ++ []))) (Don G (va_A (dO G ad d_ad dw ++ []) sz) (dO G ad out dw ++ [])) 0 0 (va_A (dO G ad d_ad dw ++ []) sz) := by
  refine Met.into (by decide) (Nat.le_of_ble_eq_true rfl) ?_
  intro p e s m below meth c C hsz ls hl hw
  have hl : lv_has ls 4 [(0, .ref (ad 99)), (1, .int x1)] := hl
  clear hsz
  generalize va_A (dO G ad d_ad dw ++ []) sz = A at hw ⊢
  have hB_8 : ∀ (k8 : Pic → Int32 → Option (Pic)) (hk8 : ∀ (d_ad : Pic) (v3 : Int32), k8 d_ad v3 = some out → ∀ (H : Heap) (locs : List Loc), Wd G A s H locs (dO G ad d_ad dw ++ []) → ∀ ls : Array Slot, lv_has ls 4 [(0, .ref (ad 99)), (3, .int v3)] → W p l e ({ frames := 1, cells := 0, slots := 0, locals := 22 }) s m [.ref (ad 99), .int x1].toArray below meth c H locs 0 0 (MQ below (Don G A (dO G ad out dw ++ [])) [.ref (ad 99), .int x1].toArray s 0 0 A) (F0 m 8 ls [])), ∀ (d_ad : Pic) (v3 : Int32), b_X9_forgets_8 x1 k8 d_ad v3 = some out → ∀ (H : Heap) (locs : List Loc), Wd G A s H locs (dO G ad d_ad dw ++ []) → ∀ ls : Array Slot, lv_has ls 4 [(0, .ref (ad 99)), (3, .int v3)] → W p l e ({ frames := 1, cells := 0, slots := 0, locals := 22 }) s m [.ref (ad 99), .int x1].toArray below meth c H locs 0 0 (MQ below (Don G A (dO G ad out dw ++ [])) [.ref (ad 99), .int x1].toArray s 0 0 A) (F0 m 8 ls []) := by
    intro k8 hk8 d_ad v3 hf H locs hw ls hl
    unfold b_X9_forgets_8 at hf
    refine r_iload0 C hl 1 rfl dX9_forgets_8 ?_
    refine lv_iconst (v := 1) C.1 C.2.1 dX9_forgets_9 (by decide) ?_
    refine lv_iadd C.1 C.2.1 dX9_forgets_10 ?_
    refine r_aload0 C hl 0 rfl dX9_forgets_11 ?_
    refine r_get C hw _ (gx_h dO_o) 20 fl_X9_35 rfl dX9_forgets_12 ?_
    refine lv_sipush (v := 315) C.1 C.2.1 dX9_forgets_15 (by decide) ?_
    obtain ⟨v2_, e2, hf⟩ := bx hf
    refine r_iald C hw _ (gx_h dO_g20) e2 dX9_forgets_18 ?_
    refine lv_icmp_ge (tgt := 50) C.1 C.2.1 dX9_forgets_19 (by decide) (fun hc => ?_) (fun hc => ?_)
    · replace hf := ifp hf hc
      refine r_aload0 C hl 0 rfl dX9_forgets_50 ?_
      refine r_get C hw _ (gx_h dO_o) 20 fl_X9_35 rfl dX9_forgets_51 ?_
      refine lv_sipush (v := 315) C.1 C.2.1 dX9_forgets_54 (by decide) ?_
      refine lv_dup2_11 C.1 C.2.1 dX9_forgets_57 rfl rfl ?_
      obtain ⟨v3_, e3, hf⟩ := bx hf
      refine r_iald C hw _ (gx_h dO_g20) e3 dX9_forgets_58 ?_
      refine lv_iconst (v := 1) C.1 C.2.1 dX9_forgets_59 (by decide) ?_
      refine lv_isub C.1 C.2.1 dX9_forgets_60 ?_
      obtain ⟨d_ad4, e4, hf⟩ := bx hf
      refine r_iast C hw _ (gx_h dO_g20) e4 (dO G ad d_ad4 dw ++ []) (fun h => (sx_h dO_g20 (dO_s20 h))) dX9_forgets_61 (fun H locs hw => ?_)
      exact fin_v C hw (Option.some.inj hf) (fun o => (dO G ad o dw ++ [])) rfl dX9_forgets_62
    · replace hf := ifn hf hc
      refine r_aload0 C hl 0 rfl dX9_forgets_22 ?_
      refine r_get C hw _ (gx_h dO_o) 20 fl_X9_35 rfl dX9_forgets_23 ?_
      refine lv_sipush (v := 285) C.1 C.2.1 dX9_forgets_26 (by decide) ?_
      refine r_iload0 C hl 1 rfl dX9_forgets_29 ?_
      refine lv_iadd C.1 C.2.1 dX9_forgets_30 ?_
      refine r_aload0 C hl 0 rfl dX9_forgets_31 ?_
      refine r_get C hw _ (gx_h dO_o) 20 fl_X9_35 rfl dX9_forgets_32 ?_
      refine lv_sipush (v := 285) C.1 C.2.1 dX9_forgets_35 (by decide) ?_
      refine r_iload0 C hl 1 rfl dX9_forgets_38 ?_
      refine lv_iadd C.1 C.2.1 dX9_forgets_39 ?_
      refine lv_iconst (v := 1) C.1 C.2.1 dX9_forgets_40 (by decide) ?_
      refine lv_iadd C.1 C.2.1 dX9_forgets_41 ?_
      obtain ⟨v5_, e5, hf⟩ := bx hf
      refine r_iald C hw _ (gx_h dO_g20) e5 dX9_forgets_42 ?_
      obtain ⟨d_ad6, e6, hf⟩ := bx hf
      refine r_iast C hw _ (gx_h dO_g20) e6 (dO G ad d_ad6 dw ++ []) (fun h => (sx_h dO_g20 (dO_s20 h))) dX9_forgets_43 (fun H locs hw => ?_)
      refine r_iinc C hl 1 (v3 + 1) [(3, .int (v3 + 1)), (0, .ref (ad 99))] rfl (iinc_e (by decide)) (by decide) rfl dX9_forgets_44 (fun ls hl => ?_)
      refine lv_goto (tgt := 8) C.1 C.2.1 dX9_forgets_47 (by decide) ?_
      exact hk8 d_ad6 (v3 + 1) hf _ _ hw _ (lv_sub hl [1, 0] rfl)
  have hL_8 : ∀ n : Nat, ∀ (d_ad : Pic) (v3 : Int32), L_X9_forgets_8 x1  n d_ad v3 = some out → ∀ (H : Heap) (locs : List Loc), Wd G A s H locs (dO G ad d_ad dw ++ []) → ∀ ls : Array Slot, lv_has ls 4 [(0, .ref (ad 99)), (3, .int v3)] → W p l e ({ frames := 1, cells := 0, slots := 0, locals := 22 }) s m [.ref (ad 99), .int x1].toArray below meth c H locs 0 0 (MQ below (Don G A (dO G ad out dw ++ [])) [.ref (ad 99), .int x1].toArray s 0 0 A) (F0 m 8 ls []) := by
    intro  n
    induction n with
    | zero => intro d_ad v3 hf; cases hf
    | succ n ih => exact hB_8 _ ih
  unfold f_X9_forgets at hf
  refine r_aload0 C hl 0 rfl dX9_forgets_0 ?_
  refine r_iload0 C hl 1 rfl dX9_forgets_1 ?_
  obtain ⟨u1, e1, hf⟩ := bx hf
  refine r_callVi (ws' := (dO G ad d_ad dw ++ [])) (As := [.int x1]) (rest := []) C hw hl.1 kX9_ageOf ml_X9_319 (c_X9_ageOf l G ad _ d_ad dw x1 u1 e1) (CutX.take dO_f CutX.none) _ (gx_h dO_o) rfl ⟨rfl, rfl⟩ ⟨Nat.le_of_ble_eq_true rfl, Nat.le_of_ble_eq_true rfl⟩ rfl ⟨Nat.zero_le _, Nat.zero_le _⟩ rfl (Nat.le_of_ble_eq_true rfl) dX9_forgets_2 (fun H locs hw => ?_)
  refine r_istore0 C hl [(2, .int u1), (0, .ref (ad 99)), (1, .int x1)] (by decide) rfl dX9_forgets_5 (fun ls hl => ?_)
  refine r_iload0 C hl 0 rfl dX9_forgets_6 ?_
  refine r_istore0 C hl [(3, .int u1), (2, .int u1), (0, .ref (ad 99)), (1, .int x1)] (by decide) rfl dX9_forgets_7 (fun ls hl => ?_)
  exact hL_8  FU d_ad u1 hf _ _ hw _ (lv_sub hl [2, 0] rfl)
set_option maxHeartbeats 4000000 in
set_option maxRecDepth 100000 in
theorem c_X9_comesInto (l : Launch) (G : GG) (ad : Nat → Nat) (sz : Nat) (d_ad : Pic) (dw : Int64) (x1 x2 : Int32) (out : Pic) (hf : f_X9_comesInto d_ad x1 x2 = some out) : Met l yX9_comesInto (.code yX9_comesInto cX9_comesInto 4 none :: BT) ({ frames := 3, cells := 0, slots := 0, locals := 64 }) (va_Pc [.ref (ad 99), .int x1, .int x2] (PreW G sz (dO G ad d_ad dw ++ []))) (Don G (va_A (dO G ad d_ad dw ++ []) sz) (dO G ad out dw ++ [])) 0 0 (va_A (dO G ad d_ad dw ++ []) sz) := by
  refine Met.into (by decide) (Nat.le_of_ble_eq_true rfl) ?_
  intro p e s m below meth c C hsz ls hl hw
  have hl : lv_has ls 4 [(0, .ref (ad 99)), (1, .int x1), (2, .int x2)] := hl
  clear hsz
  generalize va_A (dO G ad d_ad dw ++ []) sz = A at hw ⊢
  unfold f_X9_comesInto at hf
  refine r_aload0 C hl 0 rfl dX9_comesInto_0 ?_
  refine r_iload0 C hl 2 rfl dX9_comesInto_1 ?_
  obtain ⟨u1, e1, hf⟩ := bx hf
  refine r_callVi (ws' := (dO G ad d_ad dw ++ [])) (As := [.int x2]) (rest := []) C hw hl.1 kX9_freeSlot ml_X9_322 (c_X9_freeSlot l G ad _ d_ad dw x2 u1 e1) (CutX.take dO_f CutX.none) _ (gx_h dO_o) rfl ⟨rfl, rfl⟩ ⟨Nat.le_of_ble_eq_true rfl, Nat.le_of_ble_eq_true rfl⟩ rfl ⟨Nat.zero_le _, Nat.zero_le _⟩ rfl (Nat.le_of_ble_eq_true rfl) dX9_comesInto_2 (fun H locs hw => ?_)
  refine r_istore0 C hl [(3, .int u1), (0, .ref (ad 99)), (1, .int x1), (2, .int x2)] (by decide) rfl dX9_comesInto_5 (fun ls hl => ?_)
  refine r_aload0 C hl 1 rfl dX9_comesInto_6 ?_
  refine r_get C hw _ (gx_h dO_o) 20 fl_X9_35 rfl dX9_comesInto_7 ?_
  refine r_iload0 C hl 3 rfl dX9_comesInto_10 ?_
  refine r_iload0 C hl 0 rfl dX9_comesInto_11 ?_
  obtain ⟨u2, e2, hf⟩ := bx hf
  refine r_callSi (ws' := (dO G ad d_ad dw ++ [])) (As := [.int x2, .int u1]) (rest := [.ref (ad 20)]) C hw hl.1 kX9_slotAt ml_X9_304 (c_X9_slotAt l G _ x2 u1 u2 e2) CutX.none ⟨rfl, rfl⟩ ⟨Nat.le_of_ble_eq_true rfl, Nat.le_of_ble_eq_true rfl⟩ rfl ⟨Nat.zero_le _, Nat.zero_le _⟩ rfl (Nat.le_of_ble_eq_true rfl) dX9_comesInto_12 (fun H locs hw => ?_)
  refine r_iload0 C hl 2 rfl dX9_comesInto_15 ?_
  refine lv_iconst (v := 1) C.1 C.2.1 dX9_comesInto_16 (by decide) ?_
  refine lv_iadd C.1 C.2.1 dX9_comesInto_17 ?_
  obtain ⟨d_ad3, e3, hf⟩ := bx hf
  refine r_iast C hw _ (gx_h dO_g20) e3 (dO G ad d_ad3 dw ++ []) (fun h => (sx_h dO_g20 (dO_s20 h))) dX9_comesInto_18 (fun H locs hw => ?_)
  refine r_aload0 C hl 1 rfl dX9_comesInto_19 ?_
  refine r_get C hw _ (gx_h dO_o) 20 fl_X9_35 rfl dX9_comesInto_20 ?_
  refine lv_sipush (v := 225) C.1 C.2.1 dX9_comesInto_23 (by decide) ?_
  refine r_iload0 C hl 2 rfl dX9_comesInto_26 ?_
  refine lv_iadd C.1 C.2.1 dX9_comesInto_27 ?_
  refine r_iload0 C hl 3 rfl dX9_comesInto_28 ?_
  obtain ⟨d_ad4, e4, hf⟩ := bx hf
  refine r_iast C hw _ (gx_h dO_g20) e4 (dO G ad d_ad4 dw ++ []) (fun h => (sx_h dO_g20 (dO_s20 h))) dX9_comesInto_29 (fun H locs hw => ?_)
  refine r_aload0 C hl 1 rfl dX9_comesInto_30 ?_
  refine r_get C hw _ (gx_h dO_o) 20 fl_X9_35 rfl dX9_comesInto_31 ?_
  refine lv_sipush (v := 255) C.1 C.2.1 dX9_comesInto_34 (by decide) ?_
  refine r_iload0 C hl 2 rfl dX9_comesInto_37 ?_
  refine lv_iadd C.1 C.2.1 dX9_comesInto_38 ?_
  refine r_iload0 C hl 0 rfl dX9_comesInto_39 ?_
  obtain ⟨d_ad5, e5, hf⟩ := bx hf
  refine r_iast C hw _ (gx_h dO_g20) e5 (dO G ad d_ad5 dw ++ []) (fun h => (sx_h dO_g20 (dO_s20 h))) dX9_comesInto_40 (fun H locs hw => ?_)
  refine r_aload0 C hl 1 rfl dX9_comesInto_41 ?_
  refine r_get C hw _ (gx_h dO_o) 20 fl_X9_35 rfl dX9_comesInto_42 ?_
  refine lv_sipush (v := 165) C.1 C.2.1 dX9_comesInto_45 (by decide) ?_
  refine r_iload0 C hl 2 rfl dX9_comesInto_48 ?_
  refine lv_iadd C.1 C.2.1 dX9_comesInto_49 ?_
  refine lv_iconst (v := 2) C.1 C.2.1 dX9_comesInto_50 (by decide) ?_
  obtain ⟨d_ad6, e6, hf⟩ := bx hf
  refine r_iast C hw _ (gx_h dO_g20) e6 (dO G ad d_ad6 dw ++ []) (fun h => (sx_h dO_g20 (dO_s20 h))) dX9_comesInto_51 (fun H locs hw => ?_)
  exact fin_v C hw (Option.some.inj hf) (fun o => (dO G ad o dw ++ [])) rfl dX9_comesInto_52
set_option maxHeartbeats 4000000 in
set_option maxRecDepth 100000 in
theorem c_X9_leaves (l : Launch) (G : GG) (ad : Nat → Nat) (sz : Nat) (d_ad : Pic) (dw : Int64) (x1 : Int32) (out : Pic) (hf : f_X9_leaves d_ad x1 = some out) : Met l yX9_leaves (.code yX9_leaves cX9_leaves 3 none :: BT) ({ frames := 2, cells := 0, slots := 0, locals := 44 }) (va_Pc [.ref (ad 99), .int x1] (PreW G sz (dO G ad d_ad dw ++ []))) (Don G (va_A (dO G ad d_ad dw ++ []) sz) (dO G ad out dw ++ [])) 0 0 (va_A (dO G ad d_ad dw ++ []) sz) := by
  refine Met.into (by decide) (Nat.le_of_ble_eq_true rfl) ?_
  intro p e s m below meth c C hsz ls hl hw
  have hl : lv_has ls 3 [(0, .ref (ad 99)), (1, .int x1)] := hl
  clear hsz
  generalize va_A (dO G ad d_ad dw ++ []) sz = A at hw ⊢
  unfold f_X9_leaves at hf
  refine r_aload0 C hl 0 rfl dX9_leaves_0 ?_
  refine r_get C hw _ (gx_h dO_o) 20 fl_X9_35 rfl dX9_leaves_1 ?_
  refine lv_sipush (v := 225) C.1 C.2.1 dX9_leaves_4 (by decide) ?_
  refine r_iload0 C hl 1 rfl dX9_leaves_7 ?_
  refine lv_iadd C.1 C.2.1 dX9_leaves_8 ?_
  obtain ⟨v1_, e1, hf⟩ := bx hf
  refine r_iald C hw _ (gx_h dO_g20) e1 dX9_leaves_9 ?_
  refine r_istore0 C hl [(2, .int v1_), (0, .ref (ad 99)), (1, .int x1)] (by decide) rfl dX9_leaves_10 (fun ls hl => ?_)
  refine r_aload0 C hl 1 rfl dX9_leaves_11 ?_
  refine r_get C hw _ (gx_h dO_o) 20 fl_X9_35 rfl dX9_leaves_12 ?_
  refine r_iload0 C hl 0 rfl dX9_leaves_15 ?_
  refine r_aload0 C hl 1 rfl dX9_leaves_16 ?_
  refine r_get C hw _ (gx_h dO_o) 20 fl_X9_35 rfl dX9_leaves_17 ?_
  refine lv_sipush (v := 255) C.1 C.2.1 dX9_leaves_20 (by decide) ?_
  refine r_iload0 C hl 2 rfl dX9_leaves_23 ?_
  refine lv_iadd C.1 C.2.1 dX9_leaves_24 ?_
  obtain ⟨v2_, e2, hf⟩ := bx hf
  refine r_iald C hw _ (gx_h dO_g20) e2 dX9_leaves_25 ?_
  obtain ⟨u3, e3, hf⟩ := bx hf
  refine r_callSi (ws' := (dO G ad d_ad dw ++ [])) (As := [.int v1_, .int v2_]) (rest := [.ref (ad 20)]) C hw hl.1 kX9_slotAt ml_X9_304 (c_X9_slotAt l G _ v1_ v2_ u3 e3) CutX.none ⟨rfl, rfl⟩ ⟨Nat.le_of_ble_eq_true rfl, Nat.le_of_ble_eq_true rfl⟩ rfl ⟨Nat.zero_le _, Nat.zero_le _⟩ rfl (Nat.le_of_ble_eq_true rfl) dX9_leaves_26 (fun H locs hw => ?_)
  refine lv_iconst (v := 0) C.1 C.2.1 dX9_leaves_29 (by decide) ?_
  obtain ⟨d_ad4, e4, hf⟩ := bx hf
  refine r_iast C hw _ (gx_h dO_g20) e4 (dO G ad d_ad4 dw ++ []) (fun h => (sx_h dO_g20 (dO_s20 h))) dX9_leaves_30 (fun H locs hw => ?_)
  refine r_aload0 C hl 1 rfl dX9_leaves_31 ?_
  refine r_iload0 C hl 0 rfl dX9_leaves_32 ?_
  obtain ⟨u5, e5, hf⟩ := bx hf
  refine r_callVi (ws' := (dO G ad d_ad4 dw ++ [])) (As := [.int v1_]) (rest := []) C hw hl.1 kX9_fillOf ml_X9_307 (c_X9_fillOf l G ad _ d_ad4 dw v1_ u5 e5) (CutX.take dO_f CutX.none) _ (gx_h dO_o) rfl ⟨rfl, rfl⟩ ⟨Nat.le_of_ble_eq_true rfl, Nat.le_of_ble_eq_true rfl⟩ rfl ⟨Nat.zero_le _, Nat.zero_le _⟩ rfl (Nat.le_of_ble_eq_true rfl) dX9_leaves_33 (fun H locs hw => ?_)
  refine lv_if_ne (tgt := 50) C.1 C.2.1 dX9_leaves_36 (by decide) (fun hc => ?_) (fun hc => ?_)
  · replace hf := ifn hf hc
    exact fin_v C hw (Option.some.inj hf) (fun o => (dO G ad o dw ++ [])) rfl dX9_leaves_50
  · replace hf := ifp hf hc
    refine r_aload0 C hl 1 rfl dX9_leaves_39 ?_
    refine r_get C hw _ (gx_h dO_o) 20 fl_X9_35 rfl dX9_leaves_40 ?_
    refine lv_sipush (v := 796) C.1 C.2.1 dX9_leaves_43 (by decide) ?_
    refine r_iload0 C hl 0 rfl dX9_leaves_46 ?_
    refine lv_iadd C.1 C.2.1 dX9_leaves_47 ?_
    refine lv_iconst (v := 0) C.1 C.2.1 dX9_leaves_48 (by decide) ?_
    obtain ⟨d_ad6, e6, hf⟩ := bx hf
    refine r_iast C hw _ (gx_h dO_g20) e6 (dO G ad d_ad6 dw ++ []) (fun h => (sx_h dO_g20 (dO_s20 h))) dX9_leaves_49 (fun H locs hw => ?_)
    exact fin_v C hw (Option.some.inj hf) (fun o => (dO G ad o dw ++ [])) rfl dX9_leaves_50
set_option maxHeartbeats 4000000 in
set_option maxRecDepth 100000 in
theorem c_X9_dropsOne (l : Launch) (G : GG) (ad : Nat → Nat) (sz : Nat) (d_ad : Pic) (dw : Int64) (x1 : Int32) (out : Pic) (hf : f_X9_dropsOne d_ad x1 = some out) : Met l yX9_dropsOne (.code yX9_dropsOne cX9_dropsOne 2 none :: BT) ({ frames := 3, cells := 0, slots := 0, locals := 66 }) (va_Pc [.ref (ad 99), .int x1] (PreW G sz (dO G ad d_ad dw ++ []))) (Don G (va_A (dO G ad d_ad dw ++ []) sz) (dO G ad out dw ++ [])) 0 0 (va_A (dO G ad d_ad dw ++ []) sz) := by
  refine Met.into (by decide) (Nat.le_of_ble_eq_true rfl) ?_
  intro p e s m below meth c C hsz ls hl hw
  have hl : lv_has ls 2 [(0, .ref (ad 99)), (1, .int x1)] := hl
  clear hsz
  generalize va_A (dO G ad d_ad dw ++ []) sz = A at hw ⊢
  have hB_19 : ∀ (d_ad : Pic), b_X9_dropsOne_19 x1  d_ad = some out → ∀ (H : Heap) (locs : List Loc), Wd G A s H locs (dO G ad d_ad dw ++ []) → ∀ ls : Array Slot, lv_has ls 2 [(0, .ref (ad 99)), (1, .int x1)] → W p l e ({ frames := 3, cells := 0, slots := 0, locals := 66 }) s m [.ref (ad 99), .int x1].toArray below meth c H locs 0 0 (MQ below (Don G A (dO G ad out dw ++ [])) [.ref (ad 99), .int x1].toArray s 0 0 A) (F0 m 19 ls []) := by
    intro d_ad hf H locs hw ls hl
    unfold b_X9_dropsOne_19 at hf
    refine r_aload0 C hl 0 rfl dX9_dropsOne_19 ?_
    refine r_get C hw _ (gx_h dO_o) 20 fl_X9_35 rfl dX9_dropsOne_20 ?_
    refine lv_sipush (v := 165) C.1 C.2.1 dX9_dropsOne_23 (by decide) ?_
    refine r_iload0 C hl 1 rfl dX9_dropsOne_26 ?_
    refine lv_iadd C.1 C.2.1 dX9_dropsOne_27 ?_
    refine lv_iconst (v := 0) C.1 C.2.1 dX9_dropsOne_28 (by decide) ?_
    obtain ⟨d_ad2, e2, hf⟩ := bx hf
    refine r_iast C hw _ (gx_h dO_g20) e2 (dO G ad d_ad2 dw ++ []) (fun h => (sx_h dO_g20 (dO_s20 h))) dX9_dropsOne_29 (fun H locs hw => ?_)
    refine r_aload0 C hl 0 rfl dX9_dropsOne_30 ?_
    refine r_get C hw _ (gx_h dO_o) 20 fl_X9_35 rfl dX9_dropsOne_31 ?_
    refine lv_sipush (v := 1204) C.1 C.2.1 dX9_dropsOne_34 (by decide) ?_
    refine r_iload0 C hl 1 rfl dX9_dropsOne_37 ?_
    refine lv_iadd C.1 C.2.1 dX9_dropsOne_38 ?_
    refine lv_iconst (v := 0) C.1 C.2.1 dX9_dropsOne_39 (by decide) ?_
    obtain ⟨d_ad3, e3, hf⟩ := bx hf
    refine r_iast C hw _ (gx_h dO_g20) e3 (dO G ad d_ad3 dw ++ []) (fun h => (sx_h dO_g20 (dO_s20 h))) dX9_dropsOne_40 (fun H locs hw => ?_)
    exact fin_v C hw (Option.some.inj hf) (fun o => (dO G ad o dw ++ [])) rfl dX9_dropsOne_41
  unfold f_X9_dropsOne at hf
  refine r_aload0 C hl 0 rfl dX9_dropsOne_0 ?_
  refine r_iload0 C hl 1 rfl dX9_dropsOne_1 ?_
  obtain ⟨u1, e1, hf⟩ := bx hf
  refine r_callVi (ws' := (dO G ad d_ad dw ++ [])) (As := [.int x1]) (rest := []) C hw hl.1 kX9_placeOf ml_X9_325 (c_X9_placeOf l G ad _ d_ad dw x1 u1 e1) (CutX.take dO_f CutX.none) _ (gx_h dO_o) rfl ⟨rfl, rfl⟩ ⟨Nat.le_of_ble_eq_true rfl, Nat.le_of_ble_eq_true rfl⟩ rfl ⟨Nat.zero_le _, Nat.zero_le _⟩ rfl (Nat.le_of_ble_eq_true rfl) dX9_dropsOne_2 (fun H locs hw => ?_)
  refine lv_iconst (v := 2) C.1 C.2.1 dX9_dropsOne_5 (by decide) ?_
  refine lv_icmp_ne (tgt := 19) C.1 C.2.1 dX9_dropsOne_6 (by decide) (fun hc => ?_) (fun hc => ?_)
  · replace hf := ifn hf hc
    exact hB_19  d_ad hf _ _ hw _ (lv_sub hl [0, 1] rfl)
  · replace hf := ifp hf hc
    refine r_aload0 C hl 0 rfl dX9_dropsOne_9 ?_
    refine r_iload0 C hl 1 rfl dX9_dropsOne_10 ?_
    obtain ⟨u4, e4, hf⟩ := bx hf
    refine r_callVv (ws' := (dO G ad u4 dw ++ [])) (As := [.int x1]) (rest := []) C hw hl.1 kX9_leaves ml_X9_328 (c_X9_leaves l G ad _ d_ad dw x1 u4 e4) (CutX.take dO_f CutX.none) _ (gx_h dO_o) rfl ⟨rfl, rfl⟩ ⟨Nat.le_of_ble_eq_true rfl, Nat.le_of_ble_eq_true rfl⟩ rfl ⟨Nat.zero_le _, Nat.zero_le _⟩ rfl (Nat.le_of_ble_eq_true rfl) dX9_dropsOne_11 (fun H locs hw => ?_)
    refine r_aload0 C hl 0 rfl dX9_dropsOne_14 ?_
    refine r_iload0 C hl 1 rfl dX9_dropsOne_15 ?_
    obtain ⟨u5, e5, hf⟩ := bx hf
    refine r_callVv (ws' := (dO G ad u5 dw ++ [])) (As := [.int x1]) (rest := []) C hw hl.1 kX9_forgets ml_X9_331 (c_X9_forgets l G ad _ u4 dw x1 u5 e5) (CutX.take dO_f CutX.none) _ (gx_h dO_o) rfl ⟨rfl, rfl⟩ ⟨Nat.le_of_ble_eq_true rfl, Nat.le_of_ble_eq_true rfl⟩ rfl ⟨Nat.zero_le _, Nat.zero_le _⟩ rfl (Nat.le_of_ble_eq_true rfl) dX9_dropsOne_16 (fun H locs hw => ?_)
    exact hB_19  u5 hf _ _ hw _ (lv_sub hl [0, 1] rfl)
set_option maxHeartbeats 4000000 in
set_option maxRecDepth 100000 in
theorem c_X9_writes (l : Launch) (G : GG) (ad : Nat → Nat) (sz : Nat) (d_ad : Pic) (dw : Int64) (x1 : Int32) (out : Pic) (hf : f_X9_writes d_ad x1 = some out) : Met l yX9_writes (.code yX9_writes cX9_writes 2 none :: BT) ({ frames := 0, cells := 0, slots := 0, locals := 0 }) (va_Pc [.ref (ad 99), .int x1] (PreW G sz (dO G ad d_ad dw ++ []))) (Don G (va_A (dO G ad d_ad dw ++ []) sz) (dO G ad out dw ++ [])) 0 0 (va_A (dO G ad d_ad dw ++ []) sz) := by
  refine Met.into (by decide) (Nat.le_of_ble_eq_true rfl) ?_
  intro p e s m below meth c C hsz ls hl hw
  have hl : lv_has ls 2 [(0, .ref (ad 99)), (1, .int x1)] := hl
  clear hsz
  generalize va_A (dO G ad d_ad dw ++ []) sz = A at hw ⊢
  unfold f_X9_writes at hf
  refine r_aload0 C hl 0 rfl dX9_writes_0 ?_
  refine r_get C hw _ (gx_h dO_o) 20 fl_X9_35 rfl dX9_writes_1 ?_
  refine lv_sipush (v := 165) C.1 C.2.1 dX9_writes_4 (by decide) ?_
  refine r_iload0 C hl 1 rfl dX9_writes_7 ?_
  refine lv_iadd C.1 C.2.1 dX9_writes_8 ?_
  refine lv_iconst (v := 3) C.1 C.2.1 dX9_writes_9 (by decide) ?_
  obtain ⟨d_ad1, e1, hf⟩ := bx hf
  refine r_iast C hw _ (gx_h dO_g20) e1 (dO G ad d_ad1 dw ++ []) (fun h => (sx_h dO_g20 (dO_s20 h))) dX9_writes_10 (fun H locs hw => ?_)
  refine r_aload0 C hl 0 rfl dX9_writes_11 ?_
  refine r_get C hw _ (gx_h dO_o) 20 fl_X9_35 rfl dX9_writes_12 ?_
  refine lv_iconst (v := 1) C.1 C.2.1 dX9_writes_15 (by decide) ?_
  refine lv_dup2_11 C.1 C.2.1 dX9_writes_16 rfl rfl ?_
  obtain ⟨v2_, e2, hf⟩ := bx hf
  refine r_iald C hw _ (gx_h dO_g20) e2 dX9_writes_17 ?_
  refine lv_iconst (v := 1) C.1 C.2.1 dX9_writes_18 (by decide) ?_
  refine lv_iadd C.1 C.2.1 dX9_writes_19 ?_
  obtain ⟨d_ad3, e3, hf⟩ := bx hf
  refine r_iast C hw _ (gx_h dO_g20) e3 (dO G ad d_ad3 dw ++ []) (fun h => (sx_h dO_g20 (dO_s20 h))) dX9_writes_20 (fun H locs hw => ?_)
  exact fin_v C hw (Option.some.inj hf) (fun o => (dO G ad o dw ++ [])) rfl dX9_writes_21
set_option maxHeartbeats 4000000 in
set_option maxRecDepth 100000 in
theorem c_X9_isHeld (l : Launch) (G : GG) (ad : Nat → Nat) (sz : Nat) (d_ad : Pic) (dw : Int64) (x1 : Int32) (out : Int32) (hf : f_X9_isHeld d_ad x1 = some out) : Met l yX9_isHeld (.code yX9_isHeld cX9_isHeld 2 (some .boolean) :: BT) ({ frames := 0, cells := 0, slots := 0, locals := 0 }) (va_Pc [.ref (ad 99), .int x1] (PreW G sz (dO G ad d_ad dw ++ []))) (Ans G out (va_A (dO G ad d_ad dw ++ []) sz) (dO G ad d_ad dw ++ [])) 0 0 (va_A (dO G ad d_ad dw ++ []) sz) := by
  refine Met.into (by decide) (Nat.le_of_ble_eq_true rfl) ?_
  intro p e s m below meth c C hsz ls hl hw
  have hl : lv_has ls 2 [(0, .ref (ad 99)), (1, .int x1)] := hl
  clear hsz
  generalize va_A (dO G ad d_ad dw ++ []) sz = A at hw ⊢
  unfold f_X9_isHeld at hf
  refine r_aload0 C hl 0 rfl dX9_isHeld_0 ?_
  refine r_get C hw _ (gx_h dO_o) 20 fl_X9_35 rfl dX9_isHeld_1 ?_
  refine lv_sipush (v := 1204) C.1 C.2.1 dX9_isHeld_4 (by decide) ?_
  refine r_iload0 C hl 1 rfl dX9_isHeld_7 ?_
  refine lv_iadd C.1 C.2.1 dX9_isHeld_8 ?_
  obtain ⟨v1_, e1, hf⟩ := bx hf
  refine r_iald C hw _ (gx_h dO_g20) e1 dX9_isHeld_9 ?_
  refine lv_iconst (v := 1) C.1 C.2.1 dX9_isHeld_10 (by decide) ?_
  refine lv_icmp_ne (tgt := 18) C.1 C.2.1 dX9_isHeld_11 (by decide) (fun hc => ?_) (fun hc => ?_)
  · replace hf := ifn hf hc
    refine lv_iconst (v := 0) C.1 C.2.1 dX9_isHeld_18 (by decide) ?_
    exact fin_z C hw (by decide) (Option.some.inj hf) (fun o => o) (fun o => (dO G ad d_ad dw ++ [])) rfl rfl dX9_isHeld_19
  · replace hf := ifp hf hc
    refine lv_iconst (v := 1) C.1 C.2.1 dX9_isHeld_14 (by decide) ?_
    refine lv_goto (tgt := 19) C.1 C.2.1 dX9_isHeld_15 (by decide) ?_
    exact fin_z C hw (by decide) (Option.some.inj hf) (fun o => o) (fun o => (dO G ad d_ad dw ++ [])) rfl rfl dX9_isHeld_19
set_option maxHeartbeats 4000000 in
set_option maxRecDepth 100000 in
theorem c_X9_coldestFree (l : Launch) (G : GG) (ad : Nat → Nat) (sz : Nat) (d_ad : Pic) (dw : Int64)  (out : Int32) (hf : f_X9_coldestFree d_ad = some out) : Met l yX9_coldestFree (.code yX9_coldestFree cX9_coldestFree 2 (some .int) :: BT) ({ frames := 1, cells := 0, slots := 0, locals := 21 }) (va_Pc [.ref (ad 99)] (PreW G sz (dO G ad d_ad dw ++ []))) (Ans G out (va_A (dO G ad d_ad dw ++ []) sz) (dO G ad d_ad dw ++ [])) 0 0 (va_A (dO G ad d_ad dw ++ []) sz) := by
  refine Met.into (by decide) (Nat.le_of_ble_eq_true rfl) ?_
  intro p e s m below meth c C hsz ls hl hw
  have hl : lv_has ls 2 [(0, .ref (ad 99))] := hl
  clear hsz
  generalize va_A (dO G ad d_ad dw ++ []) sz = A at hw ⊢
  have hB_2 : ∀ (k2 : Int32 → Option (Int32)) (hk2 : ∀ (v1 : Int32), k2 v1 = some out → ∀ (H : Heap) (locs : List Loc), Wd G A s H locs (dO G ad d_ad dw ++ []) → ∀ ls : Array Slot, lv_has ls 2 [(0, .ref (ad 99)), (1, .int v1)] → W p l e ({ frames := 1, cells := 0, slots := 0, locals := 21 }) s m [.ref (ad 99)].toArray below meth c H locs 0 0 (MQ below (Ans G out A (dO G ad d_ad dw ++ [])) [.ref (ad 99)].toArray s 0 0 A) (F0 m 2 ls [])), ∀ (v1 : Int32), b_X9_coldestFree_2 d_ad k2 v1 = some out → ∀ (H : Heap) (locs : List Loc), Wd G A s H locs (dO G ad d_ad dw ++ []) → ∀ ls : Array Slot, lv_has ls 2 [(0, .ref (ad 99)), (1, .int v1)] → W p l e ({ frames := 1, cells := 0, slots := 0, locals := 21 }) s m [.ref (ad 99)].toArray below meth c H locs 0 0 (MQ below (Ans G out A (dO G ad d_ad dw ++ [])) [.ref (ad 99)].toArray s 0 0 A) (F0 m 2 ls []) := by
    intro k2 hk2 v1 hf H locs hw ls hl
    unfold b_X9_coldestFree_2 at hf
    refine r_iload0 C hl 1 rfl dX9_coldestFree_2 ?_
    refine r_aload0 C hl 0 rfl dX9_coldestFree_3 ?_
    refine r_get C hw _ (gx_h dO_o) 20 fl_X9_35 rfl dX9_coldestFree_4 ?_
    refine lv_sipush (v := 315) C.1 C.2.1 dX9_coldestFree_7 (by decide) ?_
    obtain ⟨v1_, e1, hf⟩ := bx hf
    refine r_iald C hw _ (gx_h dO_g20) e1 dX9_coldestFree_10 ?_
    refine lv_icmp_ge (tgt := 48) C.1 C.2.1 dX9_coldestFree_11 (by decide) (fun hc => ?_) (fun hc => ?_)
    · replace hf := ifp hf hc
      refine lv_iconst (v := (-1)) C.1 C.2.1 dX9_coldestFree_48 (by decide) ?_
      exact fin_i C hw (Option.some.inj hf) (fun o => o) (fun o => (dO G ad d_ad dw ++ [])) rfl rfl dX9_coldestFree_49
    · replace hf := ifn hf hc
      refine r_aload0 C hl 0 rfl dX9_coldestFree_14 ?_
      refine r_aload0 C hl 0 rfl dX9_coldestFree_15 ?_
      refine r_get C hw _ (gx_h dO_o) 20 fl_X9_35 rfl dX9_coldestFree_16 ?_
      refine lv_sipush (v := 285) C.1 C.2.1 dX9_coldestFree_19 (by decide) ?_
      refine r_iload0 C hl 1 rfl dX9_coldestFree_22 ?_
      refine lv_iadd C.1 C.2.1 dX9_coldestFree_23 ?_
      obtain ⟨v2_, e2, hf⟩ := bx hf
      refine r_iald C hw _ (gx_h dO_g20) e2 dX9_coldestFree_24 ?_
      obtain ⟨u3, e3, hf⟩ := bx hf
      refine r_callVi (ws' := (dO G ad d_ad dw ++ [])) (As := [.int v2_]) (rest := []) C hw hl.1 kX9_isHeld ml_X9_334 (c_X9_isHeld l G ad _ d_ad dw v2_ u3 e3) (CutX.take dO_f CutX.none) _ (gx_h dO_o) rfl ⟨rfl, rfl⟩ ⟨Nat.le_of_ble_eq_true rfl, Nat.le_of_ble_eq_true rfl⟩ rfl ⟨Nat.zero_le _, Nat.zero_le _⟩ rfl (Nat.le_of_ble_eq_true rfl) dX9_coldestFree_25 (fun H locs hw => ?_)
      refine lv_if_ne (tgt := 42) C.1 C.2.1 dX9_coldestFree_28 (by decide) (fun hc => ?_) (fun hc => ?_)
      · replace hf := ifn hf hc
        refine r_iinc C hl 1 (v1 + 1) [(1, .int (v1 + 1)), (0, .ref (ad 99))] rfl (iinc_e (by decide)) (by decide) rfl dX9_coldestFree_42 (fun ls hl => ?_)
        refine lv_goto (tgt := 2) C.1 C.2.1 dX9_coldestFree_45 (by decide) ?_
        exact hk2 (v1 + 1) hf _ _ hw _ (lv_sub hl [1, 0] rfl)
      · replace hf := ifp hf hc
        refine r_aload0 C hl 0 rfl dX9_coldestFree_31 ?_
        refine r_get C hw _ (gx_h dO_o) 20 fl_X9_35 rfl dX9_coldestFree_32 ?_
        refine lv_sipush (v := 285) C.1 C.2.1 dX9_coldestFree_35 (by decide) ?_
        refine r_iload0 C hl 1 rfl dX9_coldestFree_38 ?_
        refine lv_iadd C.1 C.2.1 dX9_coldestFree_39 ?_
        obtain ⟨v4_, e4, hf⟩ := bx hf
        refine r_iald C hw _ (gx_h dO_g20) e4 dX9_coldestFree_40 ?_
        exact fin_i C hw (Option.some.inj hf) (fun o => o) (fun o => (dO G ad d_ad dw ++ [])) rfl rfl dX9_coldestFree_41
  have hL_2 : ∀ n : Nat, ∀ (v1 : Int32), L_X9_coldestFree_2 d_ad  n v1 = some out → ∀ (H : Heap) (locs : List Loc), Wd G A s H locs (dO G ad d_ad dw ++ []) → ∀ ls : Array Slot, lv_has ls 2 [(0, .ref (ad 99)), (1, .int v1)] → W p l e ({ frames := 1, cells := 0, slots := 0, locals := 21 }) s m [.ref (ad 99)].toArray below meth c H locs 0 0 (MQ below (Ans G out A (dO G ad d_ad dw ++ [])) [.ref (ad 99)].toArray s 0 0 A) (F0 m 2 ls []) := by
    intro  n
    induction n with
    | zero => intro v1 hf; cases hf
    | succ n ih => exact hB_2 _ ih
  unfold f_X9_coldestFree at hf
  refine lv_iconst (v := 0) C.1 C.2.1 dX9_coldestFree_0 (by decide) ?_
  refine r_istore0 C hl [(1, .int 0), (0, .ref (ad 99))] (by decide) rfl dX9_coldestFree_1 (fun ls hl => ?_)
  exact hL_2  FU 0 hf _ _ hw _ (lv_sub hl [1, 0] rfl)
set_option maxHeartbeats 4000000 in
set_option maxRecDepth 100000 in
theorem c_X9_writesColdest (l : Launch) (G : GG) (ad : Nat → Nat) (sz : Nat) (d_ad : Pic) (dw : Int64)  (out : Int32 × Pic) (hf : f_X9_writesColdest d_ad = some out) : Met l yX9_writesColdest (.code yX9_writesColdest cX9_writesColdest 2 (some .int) :: BT) ({ frames := 3, cells := 0, slots := 0, locals := 66 }) (va_Pc [.ref (ad 99)] (PreW G sz (dO G ad d_ad dw ++ []))) (Ans G out.1 (va_A (dO G ad d_ad dw ++ []) sz) (dO G ad out.2 dw ++ [])) 0 0 (va_A (dO G ad d_ad dw ++ []) sz) := by
  refine Met.into (by decide) (Nat.le_of_ble_eq_true rfl) ?_
  intro p e s m below meth c C hsz ls hl hw
  have hl : lv_has ls 2 [(0, .ref (ad 99))] := hl
  clear hsz
  generalize va_A (dO G ad d_ad dw ++ []) sz = A at hw ⊢
  unfold f_X9_writesColdest at hf
  refine r_aload0 C hl 0 rfl dX9_writesColdest_0 ?_
  obtain ⟨u1, e1, hf⟩ := bx hf
  refine r_callVi (ws' := (dO G ad d_ad dw ++ [])) (As := []) (rest := []) C hw hl.1 kX9_coldestFree ml_X9_337 (c_X9_coldestFree l G ad _ d_ad dw u1 e1) (CutX.take dO_f CutX.none) _ (gx_h dO_o) rfl ⟨rfl, rfl⟩ ⟨Nat.le_of_ble_eq_true rfl, Nat.le_of_ble_eq_true rfl⟩ rfl ⟨Nat.zero_le _, Nat.zero_le _⟩ rfl (Nat.le_of_ble_eq_true rfl) dX9_writesColdest_1 (fun H locs hw => ?_)
  refine r_istore0 C hl [(1, .int u1), (0, .ref (ad 99))] (by decide) rfl dX9_writesColdest_4 (fun ls hl => ?_)
  refine r_aload0 C hl 1 rfl dX9_writesColdest_5 ?_
  refine r_iload0 C hl 0 rfl dX9_writesColdest_6 ?_
  obtain ⟨u2, e2, hf⟩ := bx hf
  refine r_callVv (ws' := (dO G ad u2 dw ++ [])) (As := [.int u1]) (rest := []) C hw hl.1 kX9_leaves ml_X9_328 (c_X9_leaves l G ad _ d_ad dw u1 u2 e2) (CutX.take dO_f CutX.none) _ (gx_h dO_o) rfl ⟨rfl, rfl⟩ ⟨Nat.le_of_ble_eq_true rfl, Nat.le_of_ble_eq_true rfl⟩ rfl ⟨Nat.zero_le _, Nat.zero_le _⟩ rfl (Nat.le_of_ble_eq_true rfl) dX9_writesColdest_7 (fun H locs hw => ?_)
  refine r_aload0 C hl 1 rfl dX9_writesColdest_10 ?_
  refine r_iload0 C hl 0 rfl dX9_writesColdest_11 ?_
  obtain ⟨u3, e3, hf⟩ := bx hf
  refine r_callVv (ws' := (dO G ad u3 dw ++ [])) (As := [.int u1]) (rest := []) C hw hl.1 kX9_forgets ml_X9_331 (c_X9_forgets l G ad _ u2 dw u1 u3 e3) (CutX.take dO_f CutX.none) _ (gx_h dO_o) rfl ⟨rfl, rfl⟩ ⟨Nat.le_of_ble_eq_true rfl, Nat.le_of_ble_eq_true rfl⟩ rfl ⟨Nat.zero_le _, Nat.zero_le _⟩ rfl (Nat.le_of_ble_eq_true rfl) dX9_writesColdest_12 (fun H locs hw => ?_)
  refine r_aload0 C hl 1 rfl dX9_writesColdest_15 ?_
  refine r_iload0 C hl 0 rfl dX9_writesColdest_16 ?_
  obtain ⟨u4, e4, hf⟩ := bx hf
  refine r_callVv (ws' := (dO G ad u4 dw ++ [])) (As := [.int u1]) (rest := []) C hw hl.1 kX9_writes ml_X9_340 (c_X9_writes l G ad _ u3 dw u1 u4 e4) (CutX.take dO_f CutX.none) _ (gx_h dO_o) rfl ⟨rfl, rfl⟩ ⟨Nat.le_of_ble_eq_true rfl, Nat.le_of_ble_eq_true rfl⟩ rfl ⟨Nat.zero_le _, Nat.zero_le _⟩ rfl (Nat.le_of_ble_eq_true rfl) dX9_writesColdest_17 (fun H locs hw => ?_)
  refine r_iload0 C hl 0 rfl dX9_writesColdest_20 ?_
  exact fin_i C hw (Option.some.inj hf) (fun o => o.1) (fun o => (dO G ad o.2 dw ++ [])) rfl rfl dX9_writesColdest_21
set_option maxHeartbeats 4000000 in
set_option maxRecDepth 100000 in
theorem c_X9_countsPushed (l : Launch) (G : GG) (ad : Nat → Nat) (sz : Nat) (d_ad : Pic) (dw : Int64) (x1 : Int32) (out : Pic) (hf : f_X9_countsPushed d_ad x1 = some out) : Met l yX9_countsPushed (.code yX9_countsPushed cX9_countsPushed 2 none :: BT) ({ frames := 0, cells := 0, slots := 0, locals := 0 }) (va_Pc [.ref (ad 99), .int x1] (PreW G sz (dO G ad d_ad dw ++ []))) (Don G (va_A (dO G ad d_ad dw ++ []) sz) (dO G ad out dw ++ [])) 0 0 (va_A (dO G ad d_ad dw ++ []) sz) := by
  refine Met.into (by decide) (Nat.le_of_ble_eq_true rfl) ?_
  intro p e s m below meth c C hsz ls hl hw
  have hl : lv_has ls 2 [(0, .ref (ad 99)), (1, .int x1)] := hl
  clear hsz
  generalize va_A (dO G ad d_ad dw ++ []) sz = A at hw ⊢
  unfold f_X9_countsPushed at hf
  refine r_aload0 C hl 0 rfl dX9_countsPushed_0 ?_
  refine r_get C hw _ (gx_h dO_o) 42 fl_X9_72 rfl dX9_countsPushed_1 ?_
  refine r_aload0 C hl 0 rfl dX9_countsPushed_4 ?_
  refine r_get C hw _ (gx_h dO_o) 43 fl_X9_343 rfl dX9_countsPushed_5 ?_
  refine r_iload0 C hl 1 rfl dX9_countsPushed_8 ?_
  obtain ⟨d_ad1, e1, hf⟩ := bx hf
  refine r_iast C hw _ (gx_h dO_g42) e1 (dO G ad d_ad1 dw ++ []) (fun h => (sx_h dO_g42 (dO_s42 h))) dX9_countsPushed_9 (fun H locs hw => ?_)
  refine r_aload0 C hl 0 rfl dX9_countsPushed_10 ?_
  refine lv_dup C.1 C.2.1 dX9_countsPushed_11 rfl ?_
  refine r_get C hw _ (gx_h dO_o) 43 fl_X9_343 rfl dX9_countsPushed_12 ?_
  refine lv_iconst (v := 1) C.1 C.2.1 dX9_countsPushed_15 (by decide) ?_
  refine lv_iadd C.1 C.2.1 dX9_countsPushed_16 ?_
  obtain ⟨d_ad2, e2, hf⟩ := bx hf
  refine r_put C hw _ (gx_h dO_o) 43 fp_X9_343 rfl rfl (Nat.le_of_ble_eq_true rfl) (dO G ad d_ad2 dw ++ []) (sx_h dO_o (dO_p43 e2)) dX9_countsPushed_17 (fun H locs hw => ?_)
  refine r_aload0 C hl 0 rfl dX9_countsPushed_20 ?_
  refine r_get C hw _ (gx_h dO_o) 20 fl_X9_35 rfl dX9_countsPushed_21 ?_
  refine lv_iconst (v := 2) C.1 C.2.1 dX9_countsPushed_24 (by decide) ?_
  refine lv_dup2_11 C.1 C.2.1 dX9_countsPushed_25 rfl rfl ?_
  obtain ⟨v3_, e3, hf⟩ := bx hf
  refine r_iald C hw _ (gx_h dO_g20) e3 dX9_countsPushed_26 ?_
  refine lv_iconst (v := 1) C.1 C.2.1 dX9_countsPushed_27 (by decide) ?_
  refine lv_iadd C.1 C.2.1 dX9_countsPushed_28 ?_
  obtain ⟨d_ad4, e4, hf⟩ := bx hf
  refine r_iast C hw _ (gx_h dO_g20) e4 (dO G ad d_ad4 dw ++ []) (fun h => (sx_h dO_g20 (dO_s20 h))) dX9_countsPushed_29 (fun H locs hw => ?_)
  exact fin_v C hw (Option.some.inj hf) (fun o => (dO G ad o dw ++ [])) rfl dX9_countsPushed_30
set_option maxHeartbeats 4000000 in
set_option maxRecDepth 100000 in
theorem c_X9_freeZone (l : Launch) (G : GG) (ad : Nat → Nat) (sz : Nat) (d_ad : Pic) (dw : Int64)  (out : Int32) (hf : f_X9_freeZone d_ad = some out) : Met l yX9_freeZone (.code yX9_freeZone cX9_freeZone 2 (some .int) :: BT) ({ frames := 1, cells := 0, slots := 0, locals := 21 }) (va_Pc [.ref (ad 99)] (PreW G sz (dO G ad d_ad dw ++ []))) (Ans G out (va_A (dO G ad d_ad dw ++ []) sz) (dO G ad d_ad dw ++ [])) 0 0 (va_A (dO G ad d_ad dw ++ []) sz) := by
  refine Met.into (by decide) (Nat.le_of_ble_eq_true rfl) ?_
  intro p e s m below meth c C hsz ls hl hw
  have hl : lv_has ls 2 [(0, .ref (ad 99))] := hl
  clear hsz
  generalize va_A (dO G ad d_ad dw ++ []) sz = A at hw ⊢
  have hB_2 : ∀ (k2 : Int32 → Option (Int32)) (hk2 : ∀ (v1 : Int32), k2 v1 = some out → ∀ (H : Heap) (locs : List Loc), Wd G A s H locs (dO G ad d_ad dw ++ []) → ∀ ls : Array Slot, lv_has ls 2 [(0, .ref (ad 99)), (1, .int v1)] → W p l e ({ frames := 1, cells := 0, slots := 0, locals := 21 }) s m [.ref (ad 99)].toArray below meth c H locs 0 0 (MQ below (Ans G out A (dO G ad d_ad dw ++ [])) [.ref (ad 99)].toArray s 0 0 A) (F0 m 2 ls [])), ∀ (v1 : Int32), b_X9_freeZone_2 d_ad k2 v1 = some out → ∀ (H : Heap) (locs : List Loc), Wd G A s H locs (dO G ad d_ad dw ++ []) → ∀ ls : Array Slot, lv_has ls 2 [(0, .ref (ad 99)), (1, .int v1)] → W p l e ({ frames := 1, cells := 0, slots := 0, locals := 21 }) s m [.ref (ad 99)].toArray below meth c H locs 0 0 (MQ below (Ans G out A (dO G ad d_ad dw ++ [])) [.ref (ad 99)].toArray s 0 0 A) (F0 m 2 ls []) := by
    intro k2 hk2 v1 hf H locs hw ls hl
    unfold b_X9_freeZone_2 at hf
    refine r_aload0 C hl 0 rfl dX9_freeZone_2 ?_
    refine r_iload0 C hl 1 rfl dX9_freeZone_3 ?_
    obtain ⟨u1, e1, hf⟩ := bx hf
    refine r_callVi (ws' := (dO G ad d_ad dw ++ [])) (As := [.int v1]) (rest := []) C hw hl.1 kX9_classOf ml_X9_310 (c_X9_classOf l G ad _ d_ad dw v1 u1 e1) (CutX.take dO_f CutX.none) _ (gx_h dO_o) rfl ⟨rfl, rfl⟩ ⟨Nat.le_of_ble_eq_true rfl, Nat.le_of_ble_eq_true rfl⟩ rfl ⟨Nat.zero_le _, Nat.zero_le _⟩ rfl (Nat.le_of_ble_eq_true rfl) dX9_freeZone_4 (fun H locs hw => ?_)
    refine lv_if_le (tgt := 16) C.1 C.2.1 dX9_freeZone_7 (by decide) (fun hc => ?_) (fun hc => ?_)
    · replace hf := ifp hf hc
      refine r_iload0 C hl 1 rfl dX9_freeZone_16 ?_
      exact fin_i C hw (Option.some.inj hf) (fun o => o) (fun o => (dO G ad d_ad dw ++ [])) rfl rfl dX9_freeZone_17
    · replace hf := ifn hf hc
      refine r_iinc C hl 1 (v1 + 1) [(1, .int (v1 + 1)), (0, .ref (ad 99))] rfl (iinc_e (by decide)) (by decide) rfl dX9_freeZone_10 (fun ls hl => ?_)
      refine lv_goto (tgt := 2) C.1 C.2.1 dX9_freeZone_13 (by decide) ?_
      exact hk2 (v1 + 1) hf _ _ hw _ (lv_sub hl [1, 0] rfl)
  have hL_2 : ∀ n : Nat, ∀ (v1 : Int32), L_X9_freeZone_2 d_ad  n v1 = some out → ∀ (H : Heap) (locs : List Loc), Wd G A s H locs (dO G ad d_ad dw ++ []) → ∀ ls : Array Slot, lv_has ls 2 [(0, .ref (ad 99)), (1, .int v1)] → W p l e ({ frames := 1, cells := 0, slots := 0, locals := 21 }) s m [.ref (ad 99)].toArray below meth c H locs 0 0 (MQ below (Ans G out A (dO G ad d_ad dw ++ [])) [.ref (ad 99)].toArray s 0 0 A) (F0 m 2 ls []) := by
    intro  n
    induction n with
    | zero => intro v1 hf; cases hf
    | succ n ih => exact hB_2 _ ih
  unfold f_X9_freeZone at hf
  refine lv_iconst (v := 0) C.1 C.2.1 dX9_freeZone_0 (by decide) ?_
  refine r_istore0 C hl [(1, .int 0), (0, .ref (ad 99))] (by decide) rfl dX9_freeZone_1 (fun ls hl => ?_)
  exact hL_2  FU 0 hf _ _ hw _ (lv_sub hl [1, 0] rfl)
set_option maxHeartbeats 4000000 in
set_option maxRecDepth 100000 in
theorem c_X9_findsRoom (l : Launch) (G : GG) (ad : Nat → Nat) (sz : Nat) (d_ad : Pic) (dw : Int64) (x1 : Int32) (out : Pic) (hf : f_X9_findsRoom d_ad x1 = some out) : Met l yX9_findsRoom (.code yX9_findsRoom cX9_findsRoom 4 none :: BT) ({ frames := 4, cells := 0, slots := 0, locals := 89 }) (va_Pc [.ref (ad 99), .int x1] (PreW G sz (dO G ad d_ad dw ++ []))) (Don G (va_A (dO G ad d_ad dw ++ []) sz) (dO G ad out dw ++ [])) 0 0 (va_A (dO G ad d_ad dw ++ []) sz) := by
  refine Met.into (by decide) (Nat.le_of_ble_eq_true rfl) ?_
  intro p e s m below meth c C hsz ls hl hw
  have hl : lv_has ls 4 [(0, .ref (ad 99)), (1, .int x1)] := hl
  clear hsz
  generalize va_A (dO G ad d_ad dw ++ []) sz = A at hw ⊢
  have hB_18 : ∀ (k18 : Pic → Int32 → Option (Pic)) (hk18 : ∀ (d_ad : Pic) (v2 : Int32), k18 d_ad v2 = some out → ∀ (H : Heap) (locs : List Loc), Wd G A s H locs (dO G ad d_ad dw ++ []) → ∀ ls : Array Slot, lv_has ls 4 [(0, .ref (ad 99)), (1, .int x1), (2, .int v2)] → W p l e ({ frames := 4, cells := 0, slots := 0, locals := 89 }) s m [.ref (ad 99), .int x1].toArray below meth c H locs 0 0 (MQ below (Don G A (dO G ad out dw ++ [])) [.ref (ad 99), .int x1].toArray s 0 0 A) (F0 m 18 ls [])), ∀ (d_ad : Pic) (v2 : Int32), b_X9_findsRoom_18 x1 k18 d_ad v2 = some out → ∀ (H : Heap) (locs : List Loc), Wd G A s H locs (dO G ad d_ad dw ++ []) → ∀ ls : Array Slot, lv_has ls 4 [(0, .ref (ad 99)), (1, .int x1), (2, .int v2)] → W p l e ({ frames := 4, cells := 0, slots := 0, locals := 89 }) s m [.ref (ad 99), .int x1].toArray below meth c H locs 0 0 (MQ below (Don G A (dO G ad out dw ++ [])) [.ref (ad 99), .int x1].toArray s 0 0 A) (F0 m 18 ls []) := by
    intro k18 hk18 d_ad v2 hf H locs hw ls hl
    unfold b_X9_findsRoom_18 at hf
    refine r_aload0 C hl 0 rfl dX9_findsRoom_18 ?_
    refine r_iload0 C hl 2 rfl dX9_findsRoom_19 ?_
    refine lv_iconst (v := (-1)) C.1 C.2.1 dX9_findsRoom_20 (by decide) ?_
    obtain ⟨u3, e3, hf⟩ := bx hf
    refine r_callVi (ws' := (dO G ad d_ad dw ++ [])) (As := [.int v2, .int (-1)]) (rest := []) C hw hl.1 kX9_fullestOf ml_X9_346 (c_X9_fullestOf l G ad _ d_ad dw v2 (-1) u3 e3) (CutX.take dO_f CutX.none) _ (gx_h dO_o) rfl ⟨rfl, rfl⟩ ⟨Nat.le_of_ble_eq_true rfl, Nat.le_of_ble_eq_true rfl⟩ rfl ⟨Nat.zero_le _, Nat.zero_le _⟩ rfl (Nat.le_of_ble_eq_true rfl) dX9_findsRoom_21 (fun H locs hw => ?_)
    refine r_istore0 C hl [(3, .int u3), (0, .ref (ad 99)), (1, .int x1), (2, .int v2)] (by decide) rfl dX9_findsRoom_24 (fun ls hl => ?_)
    refine r_iload0 C hl 0 rfl dX9_findsRoom_25 ?_
    refine lv_iconst (v := (-1)) C.1 C.2.1 dX9_findsRoom_26 (by decide) ?_
    refine lv_icmp_eq (tgt := 42) C.1 C.2.1 dX9_findsRoom_27 (by decide) (fun hc => ?_) (fun hc => ?_)
    · replace hf := ifp hf hc
      refine r_aload0 C hl 1 rfl dX9_findsRoom_42 ?_
      obtain ⟨u4, e4, hf⟩ := bx hf
      refine r_callVi (ws' := (dO G ad d_ad dw ++ [])) (As := []) (rest := []) C hw hl.1 kX9_framesNow ml_X9_356 (c_X9_framesNow l G ad _ d_ad dw u4 e4) (CutX.take dO_f CutX.none) _ (gx_h dO_o) rfl ⟨rfl, rfl⟩ ⟨Nat.le_of_ble_eq_true rfl, Nat.le_of_ble_eq_true rfl⟩ rfl ⟨Nat.zero_le _, Nat.zero_le _⟩ rfl (Nat.le_of_ble_eq_true rfl) dX9_findsRoom_43 (fun H locs hw => ?_)
      refine r_iload0 C hl 3 rfl dX9_findsRoom_46 ?_
      obtain ⟨u5, e5, hf⟩ := bx hf
      refine r_callSi (ws' := (dO G ad d_ad dw ++ [])) (As := [.int v2]) (rest := [.int u4]) C hw hl.1 kX9_framesOf ml_X9_286 (c_X9_framesOf l G _ v2 u5 e5) CutX.none ⟨rfl, rfl⟩ ⟨Nat.le_of_ble_eq_true rfl, Nat.le_of_ble_eq_true rfl⟩ rfl ⟨Nat.zero_le _, Nat.zero_le _⟩ rfl (Nat.le_of_ble_eq_true rfl) dX9_findsRoom_47 (fun H locs hw => ?_)
      refine lv_iadd C.1 C.2.1 dX9_findsRoom_50 ?_
      refine r_aload0 C hl 1 rfl dX9_findsRoom_51 ?_
      refine r_get C hw _ (gx_h dO_o) 20 fl_X9_35 rfl dX9_findsRoom_52 ?_
      refine lv_iconst (v := 0) C.1 C.2.1 dX9_findsRoom_55 (by decide) ?_
      obtain ⟨v6_, e6, hf⟩ := bx hf
      refine r_iald C hw _ (gx_h dO_g20) e6 dX9_findsRoom_56 ?_
      refine lv_icmp_gt (tgt := 77) C.1 C.2.1 dX9_findsRoom_57 (by decide) (fun hc => ?_) (fun hc => ?_)
      · replace hf := ifp hf hc
        refine r_aload0 C hl 1 rfl dX9_findsRoom_77 ?_
        obtain ⟨u7, e7, hf⟩ := bx hf
        refine r_callVi (ws' := (dO G ad d_ad dw ++ [])) (As := []) (rest := []) C hw hl.1 kX9_coldestFree ml_X9_337 (c_X9_coldestFree l G ad _ d_ad dw u7 e7) (CutX.take dO_f CutX.none) _ (gx_h dO_o) rfl ⟨rfl, rfl⟩ ⟨Nat.le_of_ble_eq_true rfl, Nat.le_of_ble_eq_true rfl⟩ rfl ⟨Nat.zero_le _, Nat.zero_le _⟩ rfl (Nat.le_of_ble_eq_true rfl) dX9_findsRoom_78 (fun H locs hw => ?_)
        refine lv_iconst (v := (-1)) C.1 C.2.1 dX9_findsRoom_81 (by decide) ?_
        refine lv_icmp_eq (tgt := 96) C.1 C.2.1 dX9_findsRoom_82 (by decide) (fun hc => ?_) (fun hc => ?_)
        · replace hf := ifp hf hc
          refine r_aload0 C hl 1 rfl dX9_findsRoom_96 ?_
          refine r_iload0 C hl 2 rfl dX9_findsRoom_97 ?_
          obtain ⟨u8, e8, hf⟩ := bx hf
          refine r_callVv (ws' := (dO G ad u8 dw ++ [])) (As := [.int x1]) (rest := []) C hw hl.1 kX9_writes ml_X9_340 (c_X9_writes l G ad _ d_ad dw x1 u8 e8) (CutX.take dO_f CutX.none) _ (gx_h dO_o) rfl ⟨rfl, rfl⟩ ⟨Nat.le_of_ble_eq_true rfl, Nat.le_of_ble_eq_true rfl⟩ rfl ⟨Nat.zero_le _, Nat.zero_le _⟩ rfl (Nat.le_of_ble_eq_true rfl) dX9_findsRoom_98 (fun H locs hw => ?_)
          refine r_aload0 C hl 1 rfl dX9_findsRoom_101 ?_
          refine r_iload0 C hl 2 rfl dX9_findsRoom_102 ?_
          obtain ⟨u9, e9, hf⟩ := bx hf
          refine r_callVv (ws' := (dO G ad u9 dw ++ [])) (As := [.int x1]) (rest := []) C hw hl.1 kX9_countsPushed ml_X9_365 (c_X9_countsPushed l G ad _ u8 dw x1 u9 e9) (CutX.take dO_f CutX.none) _ (gx_h dO_o) rfl ⟨rfl, rfl⟩ ⟨Nat.le_of_ble_eq_true rfl, Nat.le_of_ble_eq_true rfl⟩ rfl ⟨Nat.zero_le _, Nat.zero_le _⟩ rfl (Nat.le_of_ble_eq_true rfl) dX9_findsRoom_103 (fun H locs hw => ?_)
          exact fin_v C hw (Option.some.inj hf) (fun o => (dO G ad o dw ++ [])) rfl dX9_findsRoom_106
        · replace hf := ifn hf hc
          refine r_aload0 C hl 1 rfl dX9_findsRoom_85 ?_
          refine r_aload0 C hl 1 rfl dX9_findsRoom_86 ?_
          obtain ⟨u10, e10, hf⟩ := bx hf
          refine r_callVi (ws' := (dO G ad u10.2 dw ++ [])) (As := []) (rest := [.ref (ad 99)]) C hw hl.1 kX9_writesColdest ml_X9_362 (c_X9_writesColdest l G ad _ d_ad dw u10 e10) (CutX.take dO_f CutX.none) _ (gx_h dO_o) rfl ⟨rfl, rfl⟩ ⟨Nat.le_of_ble_eq_true rfl, Nat.le_of_ble_eq_true rfl⟩ rfl ⟨Nat.zero_le _, Nat.zero_le _⟩ rfl (Nat.le_of_ble_eq_true rfl) dX9_findsRoom_87 (fun H locs hw => ?_)
          obtain ⟨u11, e11, hf⟩ := bx hf
          refine r_callVv (ws' := (dO G ad u11 dw ++ [])) (As := [.int u10.1]) (rest := []) C hw hl.1 kX9_countsPushed ml_X9_365 (c_X9_countsPushed l G ad _ u10.2 dw u10.1 u11 e11) (CutX.take dO_f CutX.none) _ (gx_h dO_o) rfl ⟨rfl, rfl⟩ ⟨Nat.le_of_ble_eq_true rfl, Nat.le_of_ble_eq_true rfl⟩ rfl ⟨Nat.zero_le _, Nat.zero_le _⟩ rfl (Nat.le_of_ble_eq_true rfl) dX9_findsRoom_90 (fun H locs hw => ?_)
          refine lv_goto (tgt := 107) C.1 C.2.1 dX9_findsRoom_93 (by decide) ?_
          refine lv_goto (tgt := 18) C.1 C.2.1 dX9_findsRoom_107 (by decide) ?_
          exact hk18 u11 v2 hf _ _ hw _ (lv_sub hl [1, 2, 3] rfl)
      · replace hf := ifn hf hc
        refine r_aload0 C hl 1 rfl dX9_findsRoom_60 ?_
        refine r_get C hw _ (gx_h dO_o) 20 fl_X9_35 rfl dX9_findsRoom_61 ?_
        refine lv_sipush (v := 796) C.1 C.2.1 dX9_findsRoom_64 (by decide) ?_
        refine r_aload0 C hl 1 rfl dX9_findsRoom_67 ?_
        obtain ⟨u12, e12, hf⟩ := bx hf
        refine r_callVi (ws' := (dO G ad d_ad dw ++ [])) (As := []) (rest := [.int 796, .ref (ad 20)]) C hw hl.1 kX9_freeZone ml_X9_359 (c_X9_freeZone l G ad _ d_ad dw u12 e12) (CutX.take dO_f CutX.none) _ (gx_h dO_o) rfl ⟨rfl, rfl⟩ ⟨Nat.le_of_ble_eq_true rfl, Nat.le_of_ble_eq_true rfl⟩ rfl ⟨Nat.zero_le _, Nat.zero_le _⟩ rfl (Nat.le_of_ble_eq_true rfl) dX9_findsRoom_68 (fun H locs hw => ?_)
        refine lv_iadd C.1 C.2.1 dX9_findsRoom_71 ?_
        refine r_iload0 C hl 3 rfl dX9_findsRoom_72 ?_
        obtain ⟨d_ad13, e13, hf⟩ := bx hf
        refine r_iast C hw _ (gx_h dO_g20) e13 (dO G ad d_ad13 dw ++ []) (fun h => (sx_h dO_g20 (dO_s20 h))) dX9_findsRoom_73 (fun H locs hw => ?_)
        refine lv_goto (tgt := 107) C.1 C.2.1 dX9_findsRoom_74 (by decide) ?_
        refine lv_goto (tgt := 18) C.1 C.2.1 dX9_findsRoom_107 (by decide) ?_
        exact hk18 d_ad13 v2 hf _ _ hw _ (lv_sub hl [1, 2, 3] rfl)
    · replace hf := ifn hf hc
      refine r_aload0 C hl 1 rfl dX9_findsRoom_30 ?_
      refine r_iload0 C hl 2 rfl dX9_findsRoom_31 ?_
      refine r_iload0 C hl 0 rfl dX9_findsRoom_32 ?_
      obtain ⟨u14, e14, hf⟩ := bx hf
      refine r_callVv (ws' := (dO G ad u14 dw ++ [])) (As := [.int x1, .int u3]) (rest := []) C hw hl.1 kX9_comesInto ml_X9_349 (c_X9_comesInto l G ad _ d_ad dw x1 u3 u14 e14) (CutX.take dO_f CutX.none) _ (gx_h dO_o) rfl ⟨rfl, rfl⟩ ⟨Nat.le_of_ble_eq_true rfl, Nat.le_of_ble_eq_true rfl⟩ rfl ⟨Nat.zero_le _, Nat.zero_le _⟩ rfl (Nat.le_of_ble_eq_true rfl) dX9_findsRoom_33 (fun H locs hw => ?_)
      refine r_aload0 C hl 1 rfl dX9_findsRoom_36 ?_
      refine r_iload0 C hl 2 rfl dX9_findsRoom_37 ?_
      obtain ⟨u15, e15, hf⟩ := bx hf
      refine r_callVv (ws' := (dO G ad u15 dw ++ [])) (As := [.int x1]) (rest := []) C hw hl.1 kX9_growsOld ml_X9_353 (c_X9_growsOld l G ad _ u14 dw x1 u15 e15) (CutX.take dO_f CutX.none) _ (gx_h dO_o) rfl ⟨rfl, rfl⟩ ⟨Nat.le_of_ble_eq_true rfl, Nat.le_of_ble_eq_true rfl⟩ rfl ⟨Nat.zero_le _, Nat.zero_le _⟩ rfl (Nat.le_of_ble_eq_true rfl) dX9_findsRoom_38 (fun H locs hw => ?_)
      exact fin_v C hw (Option.some.inj hf) (fun o => (dO G ad o dw ++ [])) rfl dX9_findsRoom_41
  have hL_18 : ∀ n : Nat, ∀ (d_ad : Pic) (v2 : Int32), L_X9_findsRoom_18 x1  n d_ad v2 = some out → ∀ (H : Heap) (locs : List Loc), Wd G A s H locs (dO G ad d_ad dw ++ []) → ∀ ls : Array Slot, lv_has ls 4 [(0, .ref (ad 99)), (1, .int x1), (2, .int v2)] → W p l e ({ frames := 4, cells := 0, slots := 0, locals := 89 }) s m [.ref (ad 99), .int x1].toArray below meth c H locs 0 0 (MQ below (Don G A (dO G ad out dw ++ [])) [.ref (ad 99), .int x1].toArray s 0 0 A) (F0 m 18 ls []) := by
    intro  n
    induction n with
    | zero => intro d_ad v2 hf; cases hf
    | succ n ih => exact hB_18 _ ih
  unfold f_X9_findsRoom at hf
  refine r_aload0 C hl 0 rfl dX9_findsRoom_0 ?_
  refine r_get C hw _ (gx_h dO_o) 20 fl_X9_35 rfl dX9_findsRoom_1 ?_
  refine lv_sipush (v := 195) C.1 C.2.1 dX9_findsRoom_4 (by decide) ?_
  refine r_iload0 C hl 1 rfl dX9_findsRoom_7 ?_
  refine lv_iadd C.1 C.2.1 dX9_findsRoom_8 ?_
  obtain ⟨v1_, e1, hf⟩ := bx hf
  refine r_iald C hw _ (gx_h dO_g20) e1 dX9_findsRoom_9 ?_
  refine r_aload0 C hl 0 rfl dX9_findsRoom_10 ?_
  refine r_get C hw _ (gx_h dO_o) 3 fl_X9_229 rfl dX9_findsRoom_11 ?_
  obtain ⟨u2, e2, hf⟩ := bx hf
  refine r_callSi (ws' := (dO G ad d_ad dw ++ [])) (As := [.int v1_, .int (gS d_ad 3)]) (rest := []) C hw hl.1 kX9_homeOf ml_X9_289 (c_X9_homeOf l G _ v1_ (gS d_ad 3) u2 e2) CutX.none ⟨rfl, rfl⟩ ⟨Nat.le_of_ble_eq_true rfl, Nat.le_of_ble_eq_true rfl⟩ rfl ⟨Nat.zero_le _, Nat.zero_le _⟩ rfl (Nat.le_of_ble_eq_true rfl) dX9_findsRoom_14 (fun H locs hw => ?_)
  refine r_istore0 C hl [(2, .int u2), (0, .ref (ad 99)), (1, .int x1)] (by decide) rfl dX9_findsRoom_17 (fun ls hl => ?_)
  exact hL_18  FU d_ad u2 hf _ _ hw _ (lv_sub hl [1, 2, 0] rfl)
set_option maxHeartbeats 4000000 in
set_option maxRecDepth 100000 in
theorem c_X9_stores (l : Launch) (G : GG) (ad : Nat → Nat) (sz : Nat) (d_ad : Pic) (dw : Int64) (x1 x2 : Int32) (out : Int32 × Pic) (hf : f_X9_stores d_ad x1 x2 = some out) : Met l yX9_stores (.code yX9_stores cX9_stores 4 (some .int) :: BT) ({ frames := 5, cells := 0, slots := 0, locals := 112 }) (va_Pc [.ref (ad 99), .int x1, .int x2] (PreW G sz (dO G ad d_ad dw ++ []))) (Ans G out.1 (va_A (dO G ad d_ad dw ++ []) sz) (dO G ad out.2 dw ++ [])) 0 0 (va_A (dO G ad d_ad dw ++ []) sz) := by
  refine Met.into (by decide) (Nat.le_of_ble_eq_true rfl) ?_
  intro p e s m below meth c C hsz ls hl hw
  have hl : lv_has ls 4 [(0, .ref (ad 99)), (1, .int x1), (2, .int x2)] := hl
  clear hsz
  generalize va_A (dO G ad d_ad dw ++ []) sz = A at hw ⊢
  have hB_122 : ∀ (d_ad : Pic), b_X9_stores_122 x1 x2  d_ad = some out → ∀ (H : Heap) (locs : List Loc), Wd G A s H locs (dO G ad d_ad dw ++ []) → ∀ ls : Array Slot, lv_has ls 4 [(0, .ref (ad 99)), (1, .int x1)] → W p l e ({ frames := 5, cells := 0, slots := 0, locals := 112 }) s m [.ref (ad 99), .int x1, .int x2].toArray below meth c H locs 0 0 (MQ below (Ans G out.1 A (dO G ad out.2 dw ++ [])) [.ref (ad 99), .int x1, .int x2].toArray s 0 0 A) (F0 m 122 ls []) := by
    intro d_ad hf H locs hw ls hl
    unfold b_X9_stores_122 at hf
    refine r_aload0 C hl 0 rfl dX9_stores_122 ?_
    refine r_iload0 C hl 1 rfl dX9_stores_123 ?_
    obtain ⟨u10, e10, hf⟩ := bx hf
    refine r_callVi (ws' := (dO G ad d_ad dw ++ [])) (As := [.int x1]) (rest := []) C hw hl.1 kX9_placeOf ml_X9_325 (c_X9_placeOf l G ad _ d_ad dw x1 u10 e10) (CutX.take dO_f CutX.none) _ (gx_h dO_o) rfl ⟨rfl, rfl⟩ ⟨Nat.le_of_ble_eq_true rfl, Nat.le_of_ble_eq_true rfl⟩ rfl ⟨Nat.zero_le _, Nat.zero_le _⟩ rfl (Nat.le_of_ble_eq_true rfl) dX9_stores_124 (fun H locs hw => ?_)
    exact fin_i C hw (Option.some.inj hf) (fun o => o.1) (fun o => (dO G ad o.2 dw ++ [])) rfl rfl dX9_stores_127
  have hB_12 : ∀ (k12 : Pic → Int32 → Option (Int32 × Pic)) (hk12 : ∀ (d_ad : Pic) (v3 : Int32), k12 d_ad v3 = some out → ∀ (H : Heap) (locs : List Loc), Wd G A s H locs (dO G ad d_ad dw ++ []) → ∀ ls : Array Slot, lv_has ls 4 [(0, .ref (ad 99)), (1, .int x1), (2, .int x2), (3, .int v3)] → W p l e ({ frames := 5, cells := 0, slots := 0, locals := 112 }) s m [.ref (ad 99), .int x1, .int x2].toArray below meth c H locs 0 0 (MQ below (Ans G out.1 A (dO G ad out.2 dw ++ [])) [.ref (ad 99), .int x1, .int x2].toArray s 0 0 A) (F0 m 12 ls [])), ∀ (d_ad : Pic) (v3 : Int32), b_X9_stores_12 x1 x2 k12 d_ad v3 = some out → ∀ (H : Heap) (locs : List Loc), Wd G A s H locs (dO G ad d_ad dw ++ []) → ∀ ls : Array Slot, lv_has ls 4 [(0, .ref (ad 99)), (1, .int x1), (2, .int x2), (3, .int v3)] → W p l e ({ frames := 5, cells := 0, slots := 0, locals := 112 }) s m [.ref (ad 99), .int x1, .int x2].toArray below meth c H locs 0 0 (MQ below (Ans G out.1 A (dO G ad out.2 dw ++ [])) [.ref (ad 99), .int x1, .int x2].toArray s 0 0 A) (F0 m 12 ls []) := by
    intro k12 hk12 d_ad v3 hf H locs hw ls hl
    unfold b_X9_stores_12 at hf
    refine r_iload0 C hl 3 rfl dX9_stores_12 ?_
    refine lv_bipush (v := 16) C.1 C.2.1 dX9_stores_13 (by decide) ?_
    refine lv_icmp_ge (tgt := 50) C.1 C.2.1 dX9_stores_15 (by decide) (fun hc => ?_) (fun hc => ?_)
    · replace hf := ifp hf hc
      refine r_aload0 C hl 0 rfl dX9_stores_50 ?_
      refine r_iload0 C hl 2 rfl dX9_stores_51 ?_
      obtain ⟨u3, e3, hf⟩ := bx hf
      refine r_callSi (ws' := (dO G ad d_ad dw ++ [])) (As := [.int x2]) (rest := [.ref (ad 99)]) C hw hl.1 kX9_dataAt ml_X9_274 (c_X9_dataAt l G _ x2 u3 e3) CutX.none ⟨rfl, rfl⟩ ⟨Nat.le_of_ble_eq_true rfl, Nat.le_of_ble_eq_true rfl⟩ rfl ⟨Nat.zero_le _, Nat.zero_le _⟩ rfl (Nat.le_of_ble_eq_true rfl) dX9_stores_52 (fun H locs hw => ?_)
      obtain ⟨u4, e4, hf⟩ := bx hf
      refine r_callVi (ws' := (dO G ad u4.2 dw ++ [])) (As := [.int u3]) (rest := []) C hw hl.1 kX9_areAlike ml_X9_283 (c_X9_areAlike l G ad _ d_ad dw u3 u4 e4) (CutX.take dO_f CutX.none) _ (gx_h dO_o) rfl ⟨rfl, rfl⟩ ⟨Nat.le_of_ble_eq_true rfl, Nat.le_of_ble_eq_true rfl⟩ rfl ⟨Nat.zero_le _, Nat.zero_le _⟩ rfl (Nat.le_of_ble_eq_true rfl) dX9_stores_55 (fun H locs hw => ?_)
      refine lv_if_eq (tgt := 74) C.1 C.2.1 dX9_stores_58 (by decide) (fun hc => ?_) (fun hc => ?_)
      · replace hf := ifp hf hc
        refine r_aload0 C hl 0 rfl dX9_stores_74 ?_
        refine r_get C hw _ (gx_h dO_o) 20 fl_X9_35 rfl dX9_stores_75 ?_
        refine lv_sipush (v := 195) C.1 C.2.1 dX9_stores_78 (by decide) ?_
        refine r_iload0 C hl 1 rfl dX9_stores_81 ?_
        refine lv_iadd C.1 C.2.1 dX9_stores_82 ?_
        refine r_aload0 C hl 0 rfl dX9_stores_83 ?_
        refine r_iload0 C hl 2 rfl dX9_stores_84 ?_
        obtain ⟨u5, e5, hf⟩ := bx hf
        refine r_callSi (ws' := (dO G ad u4.2 dw ++ [])) (As := [.int x2]) (rest := [.ref (ad 99), .int (195 + x1), .ref (ad 20)]) C hw hl.1 kX9_dataAt ml_X9_274 (c_X9_dataAt l G _ x2 u5 e5) CutX.none ⟨rfl, rfl⟩ ⟨Nat.le_of_ble_eq_true rfl, Nat.le_of_ble_eq_true rfl⟩ rfl ⟨Nat.zero_le _, Nat.zero_le _⟩ rfl (Nat.le_of_ble_eq_true rfl) dX9_stores_85 (fun H locs hw => ?_)
        obtain ⟨u6, e6, hf⟩ := bx hf
        refine r_callVi (ws' := (dO G ad u6.2 dw ++ [])) (As := [.int u5]) (rest := [.int (195 + x1), .ref (ad 20)]) C hw hl.1 kX9_cutAll ml_X9_277 (c_X9_cutAll l G ad _ u4.2 dw u5 u6 e6) (CutX.take dO_f CutX.none) _ (gx_h dO_o) rfl ⟨rfl, rfl⟩ ⟨Nat.le_of_ble_eq_true rfl, Nat.le_of_ble_eq_true rfl⟩ rfl ⟨Nat.zero_le _, Nat.zero_le _⟩ rfl (Nat.le_of_ble_eq_true rfl) dX9_stores_88 (fun H locs hw => ?_)
        obtain ⟨d_ad7, e7, hf⟩ := bx hf
        refine r_iast C hw _ (gx_h dO_g20) e7 (dO G ad d_ad7 dw ++ []) (fun h => (sx_h dO_g20 (dO_s20 h))) dX9_stores_91 (fun H locs hw => ?_)
        refine r_aload0 C hl 0 rfl dX9_stores_92 ?_
        refine r_get C hw _ (gx_h dO_o) 20 fl_X9_35 rfl dX9_stores_93 ?_
        refine lv_sipush (v := 195) C.1 C.2.1 dX9_stores_96 (by decide) ?_
        refine r_iload0 C hl 1 rfl dX9_stores_99 ?_
        refine lv_iadd C.1 C.2.1 dX9_stores_100 ?_
        obtain ⟨v8_, e8, hf⟩ := bx hf
        refine r_iald C hw _ (gx_h dO_g20) e8 dX9_stores_101 ?_
        refine r_aload0 C hl 0 rfl dX9_stores_102 ?_
        refine r_get C hw _ (gx_h dO_o) 4 fl_X9_231 rfl dX9_stores_103 ?_
        refine lv_icmp_le (tgt := 117) C.1 C.2.1 dX9_stores_106 (by decide) (fun hc => ?_) (fun hc => ?_)
        · replace hf := ifp hf hc
          refine r_aload0 C hl 0 rfl dX9_stores_117 ?_
          refine r_iload0 C hl 1 rfl dX9_stores_118 ?_
          obtain ⟨u9, e9, hf⟩ := bx hf
          refine r_callVv (ws' := (dO G ad u9 dw ++ [])) (As := [.int x1]) (rest := []) C hw hl.1 kX9_findsRoom ml_X9_371 (c_X9_findsRoom l G ad _ d_ad7 dw x1 u9 e9) (CutX.take dO_f CutX.none) _ (gx_h dO_o) rfl ⟨rfl, rfl⟩ ⟨Nat.le_of_ble_eq_true rfl, Nat.le_of_ble_eq_true rfl⟩ rfl ⟨Nat.zero_le _, Nat.zero_le _⟩ rfl (Nat.le_of_ble_eq_true rfl) dX9_stores_119 (fun H locs hw => ?_)
          exact hB_122  u9 hf _ _ hw _ (lv_sub hl [0, 1] rfl)
        · replace hf := ifn hf hc
          refine r_aload0 C hl 0 rfl dX9_stores_109 ?_
          refine r_iload0 C hl 1 rfl dX9_stores_110 ?_
          obtain ⟨u11, e11, hf⟩ := bx hf
          refine r_callVv (ws' := (dO G ad u11 dw ++ [])) (As := [.int x1]) (rest := []) C hw hl.1 kX9_writes ml_X9_340 (c_X9_writes l G ad _ d_ad7 dw x1 u11 e11) (CutX.take dO_f CutX.none) _ (gx_h dO_o) rfl ⟨rfl, rfl⟩ ⟨Nat.le_of_ble_eq_true rfl, Nat.le_of_ble_eq_true rfl⟩ rfl ⟨Nat.zero_le _, Nat.zero_le _⟩ rfl (Nat.le_of_ble_eq_true rfl) dX9_stores_111 (fun H locs hw => ?_)
          refine lv_goto (tgt := 122) C.1 C.2.1 dX9_stores_114 (by decide) ?_
          exact hB_122  u11 hf _ _ hw _ (lv_sub hl [0, 1] rfl)
      · replace hf := ifn hf hc
        refine r_aload0 C hl 0 rfl dX9_stores_61 ?_
        refine r_get C hw _ (gx_h dO_o) 20 fl_X9_35 rfl dX9_stores_62 ?_
        refine lv_sipush (v := 165) C.1 C.2.1 dX9_stores_65 (by decide) ?_
        refine r_iload0 C hl 1 rfl dX9_stores_68 ?_
        refine lv_iadd C.1 C.2.1 dX9_stores_69 ?_
        refine lv_iconst (v := 1) C.1 C.2.1 dX9_stores_70 (by decide) ?_
        obtain ⟨d_ad12, e12, hf⟩ := bx hf
        refine r_iast C hw _ (gx_h dO_g20) e12 (dO G ad d_ad12 dw ++ []) (fun h => (sx_h dO_g20 (dO_s20 h))) dX9_stores_71 (fun H locs hw => ?_)
        refine lv_iconst (v := 1) C.1 C.2.1 dX9_stores_72 (by decide) ?_
        exact fin_i C hw (Option.some.inj hf) (fun o => o.1) (fun o => (dO G ad o.2 dw ++ [])) rfl rfl dX9_stores_73
    · replace hf := ifn hf hc
      refine r_aload0 C hl 0 rfl dX9_stores_18 ?_
      refine r_get C hw _ (gx_h dO_o) 20 fl_X9_35 rfl dX9_stores_19 ?_
      refine lv_sipush (v := 316) C.1 C.2.1 dX9_stores_22 (by decide) ?_
      refine lv_bipush (v := 16) C.1 C.2.1 dX9_stores_25 (by decide) ?_
      refine r_iload0 C hl 1 rfl dX9_stores_27 ?_
      refine lv_imul C.1 C.2.1 dX9_stores_28 ?_
      refine lv_iadd C.1 C.2.1 dX9_stores_29 ?_
      refine r_iload0 C hl 3 rfl dX9_stores_30 ?_
      refine lv_iadd C.1 C.2.1 dX9_stores_31 ?_
      refine r_aload0 C hl 0 rfl dX9_stores_32 ?_
      refine r_get C hw _ (gx_h dO_o) 20 fl_X9_35 rfl dX9_stores_33 ?_
      refine r_iload0 C hl 2 rfl dX9_stores_36 ?_
      obtain ⟨u13, e13, hf⟩ := bx hf
      refine r_callSi (ws' := (dO G ad d_ad dw ++ [])) (As := [.int x2]) (rest := [.ref (ad 20), .int ((316 + (16 * x1)) + v3), .ref (ad 20)]) C hw hl.1 kX9_dataAt ml_X9_274 (c_X9_dataAt l G _ x2 u13 e13) CutX.none ⟨rfl, rfl⟩ ⟨Nat.le_of_ble_eq_true rfl, Nat.le_of_ble_eq_true rfl⟩ rfl ⟨Nat.zero_le _, Nat.zero_le _⟩ rfl (Nat.le_of_ble_eq_true rfl) dX9_stores_37 (fun H locs hw => ?_)
      refine r_iload0 C hl 3 rfl dX9_stores_40 ?_
      refine lv_iadd C.1 C.2.1 dX9_stores_41 ?_
      obtain ⟨v14_, e14, hf⟩ := bx hf
      refine r_iald C hw _ (gx_h dO_g20) e14 dX9_stores_42 ?_
      obtain ⟨d_ad15, e15, hf⟩ := bx hf
      refine r_iast C hw _ (gx_h dO_g20) e15 (dO G ad d_ad15 dw ++ []) (fun h => (sx_h dO_g20 (dO_s20 h))) dX9_stores_43 (fun H locs hw => ?_)
      refine r_iinc C hl 3 (v3 + 1) [(3, .int (v3 + 1)), (0, .ref (ad 99)), (1, .int x1), (2, .int x2)] rfl (iinc_e (by decide)) (by decide) rfl dX9_stores_44 (fun ls hl => ?_)
      refine lv_goto (tgt := 12) C.1 C.2.1 dX9_stores_47 (by decide) ?_
      exact hk12 d_ad15 (v3 + 1) hf _ _ hw _ (lv_sub hl [1, 2, 3, 0] rfl)
  have hL_12 : ∀ n : Nat, ∀ (d_ad : Pic) (v3 : Int32), L_X9_stores_12 x1 x2  n d_ad v3 = some out → ∀ (H : Heap) (locs : List Loc), Wd G A s H locs (dO G ad d_ad dw ++ []) → ∀ ls : Array Slot, lv_has ls 4 [(0, .ref (ad 99)), (1, .int x1), (2, .int x2), (3, .int v3)] → W p l e ({ frames := 5, cells := 0, slots := 0, locals := 112 }) s m [.ref (ad 99), .int x1, .int x2].toArray below meth c H locs 0 0 (MQ below (Ans G out.1 A (dO G ad out.2 dw ++ [])) [.ref (ad 99), .int x1, .int x2].toArray s 0 0 A) (F0 m 12 ls []) := by
    intro  n
    induction n with
    | zero => intro d_ad v3 hf; cases hf
    | succ n ih => exact hB_12 _ ih
  unfold f_X9_stores at hf
  refine r_aload0 C hl 0 rfl dX9_stores_0 ?_
  refine lv_iconst (v := 0) C.1 C.2.1 dX9_stores_1 (by decide) ?_
  obtain ⟨d_ad1, e1, hf⟩ := bx hf
  refine r_put C hw _ (gx_h dO_o) 43 fp_X9_343 rfl rfl (Nat.le_of_ble_eq_true rfl) (dO G ad d_ad1 dw ++ []) (sx_h dO_o (dO_p43 e1)) dX9_stores_2 (fun H locs hw => ?_)
  refine r_aload0 C hl 0 rfl dX9_stores_5 ?_
  refine r_iload0 C hl 1 rfl dX9_stores_6 ?_
  obtain ⟨u2, e2, hf⟩ := bx hf
  refine r_callVv (ws' := (dO G ad u2 dw ++ [])) (As := [.int x1]) (rest := []) C hw hl.1 kX9_dropsOne ml_X9_368 (c_X9_dropsOne l G ad _ d_ad1 dw x1 u2 e2) (CutX.take dO_f CutX.none) _ (gx_h dO_o) rfl ⟨rfl, rfl⟩ ⟨Nat.le_of_ble_eq_true rfl, Nat.le_of_ble_eq_true rfl⟩ rfl ⟨Nat.zero_le _, Nat.zero_le _⟩ rfl (Nat.le_of_ble_eq_true rfl) dX9_stores_7 (fun H locs hw => ?_)
  refine lv_iconst (v := 0) C.1 C.2.1 dX9_stores_10 (by decide) ?_
  refine r_istore0 C hl [(3, .int 0), (0, .ref (ad 99)), (1, .int x1), (2, .int x2)] (by decide) rfl dX9_stores_11 (fun ls hl => ?_)
  exact hL_12  FU u2 0 hf _ _ hw _ (lv_sub hl [1, 2, 3, 0] rfl)
set_option maxHeartbeats 4000000 in
set_option maxRecDepth 100000 in
theorem c_X9_loads (l : Launch) (G : GG) (ad : Nat → Nat) (sz : Nat) (d_ad : Pic) (dw : Int64) (x1 : Int32) (out : Pic) (hf : f_X9_loads d_ad x1 = some out) : Met l yX9_loads (.code yX9_loads cX9_loads 2 none :: BT) ({ frames := 2, cells := 0, slots := 0, locals := 45 }) (va_Pc [.ref (ad 99), .int x1] (PreW G sz (dO G ad d_ad dw ++ []))) (Don G (va_A (dO G ad d_ad dw ++ []) sz) (dO G ad out dw ++ [])) 0 0 (va_A (dO G ad d_ad dw ++ []) sz) := by
  refine Met.into (by decide) (Nat.le_of_ble_eq_true rfl) ?_
  intro p e s m below meth c C hsz ls hl hw
  have hl : lv_has ls 2 [(0, .ref (ad 99)), (1, .int x1)] := hl
  clear hsz
  generalize va_A (dO G ad d_ad dw ++ []) sz = A at hw ⊢
  have hB_19 : ∀ (d_ad : Pic), b_X9_loads_19 x1  d_ad = some out → ∀ (H : Heap) (locs : List Loc), Wd G A s H locs (dO G ad d_ad dw ++ []) → ∀ ls : Array Slot, lv_has ls 2 [(0, .ref (ad 99)), (1, .int x1)] → W p l e ({ frames := 2, cells := 0, slots := 0, locals := 45 }) s m [.ref (ad 99), .int x1].toArray below meth c H locs 0 0 (MQ below (Don G A (dO G ad out dw ++ [])) [.ref (ad 99), .int x1].toArray s 0 0 A) (F0 m 19 ls []) := by
    intro d_ad hf H locs hw ls hl
    unfold b_X9_loads_19 at hf
    refine r_aload0 C hl 0 rfl dX9_loads_19 ?_
    refine r_iload0 C hl 1 rfl dX9_loads_20 ?_
    obtain ⟨u2, e2, hf⟩ := bx hf
    refine r_callVi (ws' := (dO G ad d_ad dw ++ [])) (As := [.int x1]) (rest := []) C hw hl.1 kX9_placeOf ml_X9_325 (c_X9_placeOf l G ad _ d_ad dw x1 u2 e2) (CutX.take dO_f CutX.none) _ (gx_h dO_o) rfl ⟨rfl, rfl⟩ ⟨Nat.le_of_ble_eq_true rfl, Nat.le_of_ble_eq_true rfl⟩ rfl ⟨Nat.zero_le _, Nat.zero_le _⟩ rfl (Nat.le_of_ble_eq_true rfl) dX9_loads_21 (fun H locs hw => ?_)
    refine lv_iconst (v := 2) C.1 C.2.1 dX9_loads_24 (by decide) ?_
    refine lv_icmp_eq (tgt := 29) C.1 C.2.1 dX9_loads_25 (by decide) (fun hc => ?_) (fun hc => ?_)
    · replace hf := ifp hf hc
      refine r_aload0 C hl 0 rfl dX9_loads_29 ?_
      refine r_iload0 C hl 1 rfl dX9_loads_30 ?_
      obtain ⟨u3, e3, hf⟩ := bx hf
      refine r_callVv (ws' := (dO G ad u3 dw ++ [])) (As := [.int x1]) (rest := []) C hw hl.1 kX9_forgets ml_X9_331 (c_X9_forgets l G ad _ d_ad dw x1 u3 e3) (CutX.take dO_f CutX.none) _ (gx_h dO_o) rfl ⟨rfl, rfl⟩ ⟨Nat.le_of_ble_eq_true rfl, Nat.le_of_ble_eq_true rfl⟩ rfl ⟨Nat.zero_le _, Nat.zero_le _⟩ rfl (Nat.le_of_ble_eq_true rfl) dX9_loads_31 (fun H locs hw => ?_)
      refine r_aload0 C hl 0 rfl dX9_loads_34 ?_
      refine r_iload0 C hl 1 rfl dX9_loads_35 ?_
      obtain ⟨u4, e4, hf⟩ := bx hf
      refine r_callVv (ws' := (dO G ad u4 dw ++ [])) (As := [.int x1]) (rest := []) C hw hl.1 kX9_growsOld ml_X9_353 (c_X9_growsOld l G ad _ u3 dw x1 u4 e4) (CutX.take dO_f CutX.none) _ (gx_h dO_o) rfl ⟨rfl, rfl⟩ ⟨Nat.le_of_ble_eq_true rfl, Nat.le_of_ble_eq_true rfl⟩ rfl ⟨Nat.zero_le _, Nat.zero_le _⟩ rfl (Nat.le_of_ble_eq_true rfl) dX9_loads_36 (fun H locs hw => ?_)
      exact fin_v C hw (Option.some.inj hf) (fun o => (dO G ad o dw ++ [])) rfl dX9_loads_39
    · replace hf := ifn hf hc
      exact fin_v C hw (Option.some.inj hf) (fun o => (dO G ad o dw ++ [])) rfl dX9_loads_28
  unfold f_X9_loads at hf
  refine r_aload0 C hl 0 rfl dX9_loads_0 ?_
  refine r_iload0 C hl 1 rfl dX9_loads_1 ?_
  obtain ⟨u1, e1, hf⟩ := bx hf
  refine r_callVi (ws' := (dO G ad d_ad dw ++ [])) (As := [.int x1]) (rest := []) C hw hl.1 kX9_placeOf ml_X9_325 (c_X9_placeOf l G ad _ d_ad dw x1 u1 e1) (CutX.take dO_f CutX.none) _ (gx_h dO_o) rfl ⟨rfl, rfl⟩ ⟨Nat.le_of_ble_eq_true rfl, Nat.le_of_ble_eq_true rfl⟩ rfl ⟨Nat.zero_le _, Nat.zero_le _⟩ rfl (Nat.le_of_ble_eq_true rfl) dX9_loads_2 (fun H locs hw => ?_)
  refine lv_iconst (v := 3) C.1 C.2.1 dX9_loads_5 (by decide) ?_
  refine lv_icmp_ne (tgt := 19) C.1 C.2.1 dX9_loads_6 (by decide) (fun hc => ?_) (fun hc => ?_)
  · replace hf := ifn hf hc
    exact hB_19  d_ad hf _ _ hw _ (lv_sub hl [0, 1] rfl)
  · replace hf := ifp hf hc
    refine r_aload0 C hl 0 rfl dX9_loads_9 ?_
    refine r_get C hw _ (gx_h dO_o) 20 fl_X9_35 rfl dX9_loads_10 ?_
    refine lv_iconst (v := 3) C.1 C.2.1 dX9_loads_13 (by decide) ?_
    refine lv_dup2_11 C.1 C.2.1 dX9_loads_14 rfl rfl ?_
    obtain ⟨v5_, e5, hf⟩ := bx hf
    refine r_iald C hw _ (gx_h dO_g20) e5 dX9_loads_15 ?_
    refine lv_iconst (v := 1) C.1 C.2.1 dX9_loads_16 (by decide) ?_
    refine lv_iadd C.1 C.2.1 dX9_loads_17 ?_
    obtain ⟨d_ad6, e6, hf⟩ := bx hf
    refine r_iast C hw _ (gx_h dO_g20) e6 (dO G ad d_ad6 dw ++ []) (fun h => (sx_h dO_g20 (dO_s20 h))) dX9_loads_18 (fun H locs hw => ?_)
    exact hB_19  d_ad6 hf _ _ hw _ (lv_sub hl [0, 1] rfl)
set_option maxHeartbeats 4000000 in
set_option maxRecDepth 100000 in
theorem c_X9_page (l : Launch) (G : GG) (ad : Nat → Nat) (sz : Nat) (d_ad : Pic) (dw : Int64) (x1 : Int32) (out : Int32 × Pic) (hf : f_X9_page d_ad x1 = some out) : Met l yX9_page (.code yX9_page cX9_page 2 (some .int) :: BT) ({ frames := 2, cells := 0, slots := 0, locals := 43 }) (va_Pc [.ref (ad 99), .int x1] (PreW G sz (dO G ad d_ad dw ++ []))) (Ans G out.1 (va_A (dO G ad d_ad dw ++ []) sz) (dO G ad out.2 dw ++ [])) 0 0 (va_A (dO G ad d_ad dw ++ []) sz) := by
  refine Met.into (by decide) (Nat.le_of_ble_eq_true rfl) ?_
  intro p e s m below meth c C hsz ls hl hw
  have hl : lv_has ls 2 [(0, .ref (ad 99)), (1, .int x1)] := hl
  clear hsz
  generalize va_A (dO G ad d_ad dw ++ []) sz = A at hw ⊢
  unfold f_X9_page at hf
  refine r_aload0 C hl 0 rfl dX9_page_0 ?_
  refine lv_iconst (v := 0) C.1 C.2.1 dX9_page_1 (by decide) ?_
  obtain ⟨d_ad1, e1, hf⟩ := bx hf
  refine r_put C hw _ (gx_h dO_o) 0 fp_X9_75 rfl rfl (Nat.le_of_ble_eq_true rfl) (dO G ad d_ad1 dw ++ []) (sx_h dO_o (dO_p0 e1)) dX9_page_2 (fun H locs hw => ?_)
  refine r_aload0 C hl 0 rfl dX9_page_5 ?_
  refine r_iload0 C hl 1 rfl dX9_page_6 ?_
  obtain ⟨u2, e2, hf⟩ := bx hf
  refine r_callVi (ws' := (dO G ad d_ad1 dw ++ [])) (As := [.int x1]) (rest := []) C hw hl.1 kX9_isPage ml_X9_374 (c_X9_isPage l G ad _ d_ad1 dw x1 u2 e2) (CutX.take dO_f CutX.none) _ (gx_h dO_o) rfl ⟨rfl, rfl⟩ ⟨Nat.le_of_ble_eq_true rfl, Nat.le_of_ble_eq_true rfl⟩ rfl ⟨Nat.zero_le _, Nat.zero_le _⟩ rfl (Nat.le_of_ble_eq_true rfl) dX9_page_7 (fun H locs hw => ?_)
  refine lv_if_eq (tgt := 25) C.1 C.2.1 dX9_page_10 (by decide) (fun hc => ?_) (fun hc => ?_)
  · replace hf := ifp hf hc
    refine r_aload0 C hl 0 rfl dX9_page_25 ?_
    refine lv_iconst (v := 1) C.1 C.2.1 dX9_page_26 (by decide) ?_
    obtain ⟨u3, e3, hf⟩ := bx hf
    refine r_callVi (ws' := (dO G ad u3.2 dw ++ [])) (As := [.int 1]) (rest := []) C hw hl.1 kX9_refused ml_X9_210 (c_X9_refused l G ad _ d_ad1 dw 1 u3 e3) (CutX.take dO_f CutX.none) _ (gx_h dO_o) rfl ⟨rfl, rfl⟩ ⟨Nat.le_of_ble_eq_true rfl, Nat.le_of_ble_eq_true rfl⟩ rfl ⟨Nat.zero_le _, Nat.zero_le _⟩ rfl (Nat.le_of_ble_eq_true rfl) dX9_page_27 (fun H locs hw => ?_)
    exact fin_i C hw (Option.some.inj hf) (fun o => o.1) (fun o => (dO G ad o.2 dw ++ [])) rfl rfl dX9_page_30
  · replace hf := ifn hf hc
    refine r_aload0 C hl 0 rfl dX9_page_13 ?_
    refine r_aload0 C hl 0 rfl dX9_page_14 ?_
    refine r_iload0 C hl 1 rfl dX9_page_15 ?_
    obtain ⟨u4, e4, hf⟩ := bx hf
    refine r_callVi (ws' := (dO G ad d_ad1 dw ++ [])) (As := [.int x1]) (rest := [.ref (ad 99)]) C hw hl.1 kX9_placeOf ml_X9_325 (c_X9_placeOf l G ad _ d_ad1 dw x1 u4 e4) (CutX.take dO_f CutX.none) _ (gx_h dO_o) rfl ⟨rfl, rfl⟩ ⟨Nat.le_of_ble_eq_true rfl, Nat.le_of_ble_eq_true rfl⟩ rfl ⟨Nat.zero_le _, Nat.zero_le _⟩ rfl (Nat.le_of_ble_eq_true rfl) dX9_page_16 (fun H locs hw => ?_)
    obtain ⟨u5, e5, hf⟩ := bx hf
    refine r_callVi (ws' := (dO G ad u5.2 dw ++ [])) (As := [.int u4]) (rest := []) C hw hl.1 kX9_good ml_X9_222 (c_X9_good l G ad _ d_ad1 dw u4 u5 e5) (CutX.take dO_f CutX.none) _ (gx_h dO_o) rfl ⟨rfl, rfl⟩ ⟨Nat.le_of_ble_eq_true rfl, Nat.le_of_ble_eq_true rfl⟩ rfl ⟨Nat.zero_le _, Nat.zero_le _⟩ rfl (Nat.le_of_ble_eq_true rfl) dX9_page_19 (fun H locs hw => ?_)
    refine lv_goto (tgt := 30) C.1 C.2.1 dX9_page_22 (by decide) ?_
    exact fin_i C hw (Option.some.inj hf) (fun o => o.1) (fun o => (dO G ad o.2 dw ++ [])) rfl rfl dX9_page_30
set_option maxHeartbeats 4000000 in
set_option maxRecDepth 100000 in
theorem c_X9_pooled (l : Launch) (G : GG) (ad : Nat → Nat) (sz : Nat) (d_ad : Pic) (dw : Int64) (x1 x2 : Int32) (out : Int32 × Pic) (hf : f_X9_pooled d_ad x1 x2 = some out) : Met l yX9_pooled (.code yX9_pooled cX9_pooled 3 (some .int) :: BT) ({ frames := 2, cells := 0, slots := 0, locals := 43 }) (va_Pc [.ref (ad 99), .int x1, .int x2] (PreW G sz (dO G ad d_ad dw ++ []))) (Ans G out.1 (va_A (dO G ad d_ad dw ++ []) sz) (dO G ad out.2 dw ++ [])) 0 0 (va_A (dO G ad d_ad dw ++ []) sz) := by
  refine Met.into (by decide) (Nat.le_of_ble_eq_true rfl) ?_
  intro p e s m below meth c C hsz ls hl hw
  have hl : lv_has ls 3 [(0, .ref (ad 99)), (1, .int x1), (2, .int x2)] := hl
  clear hsz
  generalize va_A (dO G ad d_ad dw ++ []) sz = A at hw ⊢
  have hB_22 : ∀ (d_ad : Pic), b_X9_pooled_22 x1 x2  d_ad = some out → ∀ (H : Heap) (locs : List Loc), Wd G A s H locs (dO G ad d_ad dw ++ []) → ∀ ls : Array Slot, lv_has ls 3 [(0, .ref (ad 99))] → W p l e ({ frames := 2, cells := 0, slots := 0, locals := 43 }) s m [.ref (ad 99), .int x1, .int x2].toArray below meth c H locs 0 0 (MQ below (Ans G out.1 A (dO G ad out.2 dw ++ [])) [.ref (ad 99), .int x1, .int x2].toArray s 0 0 A) (F0 m 22 ls []) := by
    intro d_ad hf H locs hw ls hl
    unfold b_X9_pooled_22 at hf
    refine r_aload0 C hl 0 rfl dX9_pooled_22 ?_
    refine lv_iconst (v := 1) C.1 C.2.1 dX9_pooled_23 (by decide) ?_
    obtain ⟨u3, e3, hf⟩ := bx hf
    refine r_callVi (ws' := (dO G ad u3.2 dw ++ [])) (As := [.int 1]) (rest := []) C hw hl.1 kX9_refused ml_X9_210 (c_X9_refused l G ad _ d_ad dw 1 u3 e3) (CutX.take dO_f CutX.none) _ (gx_h dO_o) rfl ⟨rfl, rfl⟩ ⟨Nat.le_of_ble_eq_true rfl, Nat.le_of_ble_eq_true rfl⟩ rfl ⟨Nat.zero_le _, Nat.zero_le _⟩ rfl (Nat.le_of_ble_eq_true rfl) dX9_pooled_24 (fun H locs hw => ?_)
    exact fin_i C hw (Option.some.inj hf) (fun o => o.1) (fun o => (dO G ad o.2 dw ++ [])) rfl rfl dX9_pooled_27
  unfold f_X9_pooled at hf
  refine r_aload0 C hl 0 rfl dX9_pooled_0 ?_
  refine lv_iconst (v := 0) C.1 C.2.1 dX9_pooled_1 (by decide) ?_
  obtain ⟨d_ad1, e1, hf⟩ := bx hf
  refine r_put C hw _ (gx_h dO_o) 0 fp_X9_75 rfl rfl (Nat.le_of_ble_eq_true rfl) (dO G ad d_ad1 dw ++ []) (sx_h dO_o (dO_p0 e1)) dX9_pooled_2 (fun H locs hw => ?_)
  refine r_aload0 C hl 0 rfl dX9_pooled_5 ?_
  refine r_iload0 C hl 1 rfl dX9_pooled_6 ?_
  obtain ⟨u2, e2, hf⟩ := bx hf
  refine r_callVi (ws' := (dO G ad d_ad1 dw ++ [])) (As := [.int x1]) (rest := []) C hw hl.1 kX9_isPage ml_X9_374 (c_X9_isPage l G ad _ d_ad1 dw x1 u2 e2) (CutX.take dO_f CutX.none) _ (gx_h dO_o) rfl ⟨rfl, rfl⟩ ⟨Nat.le_of_ble_eq_true rfl, Nat.le_of_ble_eq_true rfl⟩ rfl ⟨Nat.zero_le _, Nat.zero_le _⟩ rfl (Nat.le_of_ble_eq_true rfl) dX9_pooled_7 (fun H locs hw => ?_)
  refine lv_if_eq (tgt := 22) C.1 C.2.1 dX9_pooled_10 (by decide) (fun hc => ?_) (fun hc => ?_)
  · replace hf := ifp hf hc
    exact hB_22  d_ad1 hf _ _ hw _ (lv_sub hl [0] rfl)
  · replace hf := ifn hf hc
    refine r_iload0 C hl 2 rfl dX9_pooled_13 ?_
    refine lv_iconst (v := 0) C.1 C.2.1 dX9_pooled_14 (by decide) ?_
    refine lv_iconst (v := 4) C.1 C.2.1 dX9_pooled_15 (by decide) ?_
    obtain ⟨u4, e4, hf⟩ := bx hf
    refine r_callSi (ws' := (dO G ad d_ad1 dw ++ [])) (As := [.int x2, .int 0, .int 4]) (rest := []) C hw hl.1 kX9_in ml_X9_100 (c_X9_in l G _ x2 0 4 u4 e4) CutX.none ⟨rfl, rfl⟩ ⟨Nat.le_of_ble_eq_true rfl, Nat.le_of_ble_eq_true rfl⟩ rfl ⟨Nat.zero_le _, Nat.zero_le _⟩ rfl (Nat.le_of_ble_eq_true rfl) dX9_pooled_16 (fun H locs hw => ?_)
    refine lv_if_ne (tgt := 28) C.1 C.2.1 dX9_pooled_19 (by decide) (fun hc => ?_) (fun hc => ?_)
    · replace hf := ifn hf hc
      refine r_aload0 C hl 0 rfl dX9_pooled_28 ?_
      refine r_iload0 C hl 1 rfl dX9_pooled_29 ?_
      obtain ⟨u5, e5, hf⟩ := bx hf
      refine r_callVi (ws' := (dO G ad d_ad1 dw ++ [])) (As := [.int x1]) (rest := []) C hw hl.1 kX9_placeOf ml_X9_325 (c_X9_placeOf l G ad _ d_ad1 dw x1 u5 e5) (CutX.take dO_f CutX.none) _ (gx_h dO_o) rfl ⟨rfl, rfl⟩ ⟨Nat.le_of_ble_eq_true rfl, Nat.le_of_ble_eq_true rfl⟩ rfl ⟨Nat.zero_le _, Nat.zero_le _⟩ rfl (Nat.le_of_ble_eq_true rfl) dX9_pooled_30 (fun H locs hw => ?_)
      refine lv_iconst (v := 2) C.1 C.2.1 dX9_pooled_33 (by decide) ?_
      refine lv_icmp_eq (tgt := 43) C.1 C.2.1 dX9_pooled_34 (by decide) (fun hc => ?_) (fun hc => ?_)
      · replace hf := ifp hf hc
        refine r_iload0 C hl 2 rfl dX9_pooled_43 ?_
        rcases Decidable.em (x2 = 0) with hc | h0_
        · replace hf := ifp hf hc
          refine lv_tableIn (tgt := 76) C.1 C.2.1 dX9_pooled_44 (by rw [hc]; decide) (by rw [hc]; decide) (by rw [hc]; rfl) (by decide) ?_
          refine r_aload0 C hl 0 rfl dX9_pooled_76 ?_
          refine r_aload0 C hl 0 rfl dX9_pooled_77 ?_
          refine r_get C hw _ (gx_h dO_o) 20 fl_X9_35 rfl dX9_pooled_78 ?_
          refine lv_sipush (v := 195) C.1 C.2.1 dX9_pooled_81 (by decide) ?_
          refine r_iload0 C hl 1 rfl dX9_pooled_84 ?_
          refine lv_iadd C.1 C.2.1 dX9_pooled_85 ?_
          obtain ⟨v14_, e14, hf⟩ := bx hf
          refine r_iald C hw _ (gx_h dO_g20) e14 dX9_pooled_86 ?_
          obtain ⟨u15, e15, hf⟩ := bx hf
          refine r_callVi (ws' := (dO G ad u15.2 dw ++ [])) (As := [.int v14_]) (rest := []) C hw hl.1 kX9_good ml_X9_222 (c_X9_good l G ad _ d_ad1 dw v14_ u15 e15) (CutX.take dO_f CutX.none) _ (gx_h dO_o) rfl ⟨rfl, rfl⟩ ⟨Nat.le_of_ble_eq_true rfl, Nat.le_of_ble_eq_true rfl⟩ rfl ⟨Nat.zero_le _, Nat.zero_le _⟩ rfl (Nat.le_of_ble_eq_true rfl) dX9_pooled_87 (fun H locs hw => ?_)
          exact fin_i C hw (Option.some.inj hf) (fun o => o.1) (fun o => (dO G ad o.2 dw ++ [])) rfl rfl dX9_pooled_90
        replace hf := ifn hf h0_
        rcases Decidable.em (x2 = 1) with hc | h1_
        · replace hf := ifp hf hc
          refine lv_tableIn (tgt := 91) C.1 C.2.1 dX9_pooled_44 (by rw [hc]; decide) (by rw [hc]; decide) (by rw [hc]; rfl) (by decide) ?_
          refine r_aload0 C hl 0 rfl dX9_pooled_91 ?_
          refine r_aload0 C hl 0 rfl dX9_pooled_92 ?_
          refine r_get C hw _ (gx_h dO_o) 20 fl_X9_35 rfl dX9_pooled_93 ?_
          refine lv_sipush (v := 225) C.1 C.2.1 dX9_pooled_96 (by decide) ?_
          refine r_iload0 C hl 1 rfl dX9_pooled_99 ?_
          refine lv_iadd C.1 C.2.1 dX9_pooled_100 ?_
          obtain ⟨v12_, e12, hf⟩ := bx hf
          refine r_iald C hw _ (gx_h dO_g20) e12 dX9_pooled_101 ?_
          obtain ⟨u13, e13, hf⟩ := bx hf
          refine r_callVi (ws' := (dO G ad u13.2 dw ++ [])) (As := [.int v12_]) (rest := []) C hw hl.1 kX9_good ml_X9_222 (c_X9_good l G ad _ d_ad1 dw v12_ u13 e13) (CutX.take dO_f CutX.none) _ (gx_h dO_o) rfl ⟨rfl, rfl⟩ ⟨Nat.le_of_ble_eq_true rfl, Nat.le_of_ble_eq_true rfl⟩ rfl ⟨Nat.zero_le _, Nat.zero_le _⟩ rfl (Nat.le_of_ble_eq_true rfl) dX9_pooled_102 (fun H locs hw => ?_)
          exact fin_i C hw (Option.some.inj hf) (fun o => o.1) (fun o => (dO G ad o.2 dw ++ [])) rfl rfl dX9_pooled_105
        replace hf := ifn hf h1_
        rcases Decidable.em (x2 = 2) with hc | h2_
        · replace hf := ifp hf hc
          refine lv_tableIn (tgt := 106) C.1 C.2.1 dX9_pooled_44 (by rw [hc]; decide) (by rw [hc]; decide) (by rw [hc]; rfl) (by decide) ?_
          refine r_aload0 C hl 0 rfl dX9_pooled_106 ?_
          refine r_aload0 C hl 0 rfl dX9_pooled_107 ?_
          refine r_get C hw _ (gx_h dO_o) 20 fl_X9_35 rfl dX9_pooled_108 ?_
          refine lv_sipush (v := 255) C.1 C.2.1 dX9_pooled_111 (by decide) ?_
          refine r_iload0 C hl 1 rfl dX9_pooled_114 ?_
          refine lv_iadd C.1 C.2.1 dX9_pooled_115 ?_
          obtain ⟨v10_, e10, hf⟩ := bx hf
          refine r_iald C hw _ (gx_h dO_g20) e10 dX9_pooled_116 ?_
          obtain ⟨u11, e11, hf⟩ := bx hf
          refine r_callVi (ws' := (dO G ad u11.2 dw ++ [])) (As := [.int v10_]) (rest := []) C hw hl.1 kX9_good ml_X9_222 (c_X9_good l G ad _ d_ad1 dw v10_ u11 e11) (CutX.take dO_f CutX.none) _ (gx_h dO_o) rfl ⟨rfl, rfl⟩ ⟨Nat.le_of_ble_eq_true rfl, Nat.le_of_ble_eq_true rfl⟩ rfl ⟨Nat.zero_le _, Nat.zero_le _⟩ rfl (Nat.le_of_ble_eq_true rfl) dX9_pooled_117 (fun H locs hw => ?_)
          exact fin_i C hw (Option.some.inj hf) (fun o => o.1) (fun o => (dO G ad o.2 dw ++ [])) rfl rfl dX9_pooled_120
        replace hf := ifn hf h2_
        rcases Decidable.em (x2 = 3) with hc | h3_
        · replace hf := ifp hf hc
          refine lv_tableIn (tgt := 121) C.1 C.2.1 dX9_pooled_44 (by rw [hc]; decide) (by rw [hc]; decide) (by rw [hc]; rfl) (by decide) ?_
          refine r_aload0 C hl 0 rfl dX9_pooled_121 ?_
          refine r_aload0 C hl 0 rfl dX9_pooled_122 ?_
          refine r_iload0 C hl 1 rfl dX9_pooled_123 ?_
          obtain ⟨u8, e8, hf⟩ := bx hf
          refine r_callVi (ws' := (dO G ad d_ad1 dw ++ [])) (As := [.int x1]) (rest := [.ref (ad 99)]) C hw hl.1 kX9_ageOf ml_X9_319 (c_X9_ageOf l G ad _ d_ad1 dw x1 u8 e8) (CutX.take dO_f CutX.none) _ (gx_h dO_o) rfl ⟨rfl, rfl⟩ ⟨Nat.le_of_ble_eq_true rfl, Nat.le_of_ble_eq_true rfl⟩ rfl ⟨Nat.zero_le _, Nat.zero_le _⟩ rfl (Nat.le_of_ble_eq_true rfl) dX9_pooled_124 (fun H locs hw => ?_)
          obtain ⟨u9, e9, hf⟩ := bx hf
          refine r_callVi (ws' := (dO G ad u9.2 dw ++ [])) (As := [.int u8]) (rest := []) C hw hl.1 kX9_good ml_X9_222 (c_X9_good l G ad _ d_ad1 dw u8 u9 e9) (CutX.take dO_f CutX.none) _ (gx_h dO_o) rfl ⟨rfl, rfl⟩ ⟨Nat.le_of_ble_eq_true rfl, Nat.le_of_ble_eq_true rfl⟩ rfl ⟨Nat.zero_le _, Nat.zero_le _⟩ rfl (Nat.le_of_ble_eq_true rfl) dX9_pooled_127 (fun H locs hw => ?_)
          exact fin_i C hw (Option.some.inj hf) (fun o => o.1) (fun o => (dO G ad o.2 dw ++ [])) rfl rfl dX9_pooled_130
        replace hf := ifn hf h3_
        refine lv_tableOut (tgt := 131) C.1 C.2.1 dX9_pooled_44 (sw_out4 h0_ h1_ h2_ h3_) (by decide) ?_
        refine r_aload0 C hl 0 rfl dX9_pooled_131 ?_
        refine r_aload0 C hl 0 rfl dX9_pooled_132 ?_
        refine r_get C hw _ (gx_h dO_o) 20 fl_X9_35 rfl dX9_pooled_133 ?_
        refine lv_sipush (v := 1204) C.1 C.2.1 dX9_pooled_136 (by decide) ?_
        refine r_iload0 C hl 1 rfl dX9_pooled_139 ?_
        refine lv_iadd C.1 C.2.1 dX9_pooled_140 ?_
        obtain ⟨v6_, e6, hf⟩ := bx hf
        refine r_iald C hw _ (gx_h dO_g20) e6 dX9_pooled_141 ?_
        obtain ⟨u7, e7, hf⟩ := bx hf
        refine r_callVi (ws' := (dO G ad u7.2 dw ++ [])) (As := [.int v6_]) (rest := []) C hw hl.1 kX9_good ml_X9_222 (c_X9_good l G ad _ d_ad1 dw v6_ u7 e7) (CutX.take dO_f CutX.none) _ (gx_h dO_o) rfl ⟨rfl, rfl⟩ ⟨Nat.le_of_ble_eq_true rfl, Nat.le_of_ble_eq_true rfl⟩ rfl ⟨Nat.zero_le _, Nat.zero_le _⟩ rfl (Nat.le_of_ble_eq_true rfl) dX9_pooled_142 (fun H locs hw => ?_)
        exact fin_i C hw (Option.some.inj hf) (fun o => o.1) (fun o => (dO G ad o.2 dw ++ [])) rfl rfl dX9_pooled_145
      · replace hf := ifn hf hc
        refine r_aload0 C hl 0 rfl dX9_pooled_37 ?_
        refine lv_iconst (v := 5) C.1 C.2.1 dX9_pooled_38 (by decide) ?_
        obtain ⟨u16, e16, hf⟩ := bx hf
        refine r_callVi (ws' := (dO G ad u16.2 dw ++ [])) (As := [.int 5]) (rest := []) C hw hl.1 kX9_refused ml_X9_210 (c_X9_refused l G ad _ d_ad1 dw 5 u16 e16) (CutX.take dO_f CutX.none) _ (gx_h dO_o) rfl ⟨rfl, rfl⟩ ⟨Nat.le_of_ble_eq_true rfl, Nat.le_of_ble_eq_true rfl⟩ rfl ⟨Nat.zero_le _, Nat.zero_le _⟩ rfl (Nat.le_of_ble_eq_true rfl) dX9_pooled_39 (fun H locs hw => ?_)
        exact fin_i C hw (Option.some.inj hf) (fun o => o.1) (fun o => (dO G ad o.2 dw ++ [])) rfl rfl dX9_pooled_42
    · replace hf := ifp hf hc
      exact hB_22  d_ad1 hf _ _ hw _ (lv_sub hl [0] rfl)
set_option maxHeartbeats 4000000 in
set_option maxRecDepth 100000 in
theorem c_X9_read (l : Launch) (G : GG) (ad : Nat → Nat) (sz : Nat) (d_ad : Pic) (dw : Int64) (x1 x2 : Int32) (out : Int32 × Pic) (hf : f_X9_read d_ad x1 x2 = some out) : Met l yX9_read (.code yX9_read cX9_read 3 (some .int) :: BT) ({ frames := 2, cells := 0, slots := 0, locals := 43 }) (va_Pc [.ref (ad 99), .int x1, .int x2] (PreW G sz (dO G ad d_ad dw ++ []))) (Ans G out.1 (va_A (dO G ad d_ad dw ++ []) sz) (dO G ad out.2 dw ++ [])) 0 0 (va_A (dO G ad d_ad dw ++ []) sz) := by
  refine Met.into (by decide) (Nat.le_of_ble_eq_true rfl) ?_
  intro p e s m below meth c C hsz ls hl hw
  have hl : lv_has ls 3 [(0, .ref (ad 99)), (1, .int x1), (2, .int x2)] := hl
  clear hsz
  generalize va_A (dO G ad d_ad dw ++ []) sz = A at hw ⊢
  have hB_23 : ∀ (d_ad : Pic), b_X9_read_23 x1 x2  d_ad = some out → ∀ (H : Heap) (locs : List Loc), Wd G A s H locs (dO G ad d_ad dw ++ []) → ∀ ls : Array Slot, lv_has ls 3 [(0, .ref (ad 99))] → W p l e ({ frames := 2, cells := 0, slots := 0, locals := 43 }) s m [.ref (ad 99), .int x1, .int x2].toArray below meth c H locs 0 0 (MQ below (Ans G out.1 A (dO G ad out.2 dw ++ [])) [.ref (ad 99), .int x1, .int x2].toArray s 0 0 A) (F0 m 23 ls []) := by
    intro d_ad hf H locs hw ls hl
    unfold b_X9_read_23 at hf
    refine r_aload0 C hl 0 rfl dX9_read_23 ?_
    refine lv_iconst (v := 1) C.1 C.2.1 dX9_read_24 (by decide) ?_
    obtain ⟨u3, e3, hf⟩ := bx hf
    refine r_callVi (ws' := (dO G ad u3.2 dw ++ [])) (As := [.int 1]) (rest := []) C hw hl.1 kX9_refused ml_X9_210 (c_X9_refused l G ad _ d_ad dw 1 u3 e3) (CutX.take dO_f CutX.none) _ (gx_h dO_o) rfl ⟨rfl, rfl⟩ ⟨Nat.le_of_ble_eq_true rfl, Nat.le_of_ble_eq_true rfl⟩ rfl ⟨Nat.zero_le _, Nat.zero_le _⟩ rfl (Nat.le_of_ble_eq_true rfl) dX9_read_25 (fun H locs hw => ?_)
    exact fin_i C hw (Option.some.inj hf) (fun o => o.1) (fun o => (dO G ad o.2 dw ++ [])) rfl rfl dX9_read_28
  unfold f_X9_read at hf
  refine r_aload0 C hl 0 rfl dX9_read_0 ?_
  refine lv_iconst (v := 0) C.1 C.2.1 dX9_read_1 (by decide) ?_
  obtain ⟨d_ad1, e1, hf⟩ := bx hf
  refine r_put C hw _ (gx_h dO_o) 0 fp_X9_75 rfl rfl (Nat.le_of_ble_eq_true rfl) (dO G ad d_ad1 dw ++ []) (sx_h dO_o (dO_p0 e1)) dX9_read_2 (fun H locs hw => ?_)
  refine r_aload0 C hl 0 rfl dX9_read_5 ?_
  refine r_iload0 C hl 1 rfl dX9_read_6 ?_
  obtain ⟨u2, e2, hf⟩ := bx hf
  refine r_callVi (ws' := (dO G ad d_ad1 dw ++ [])) (As := [.int x1]) (rest := []) C hw hl.1 kX9_isPage ml_X9_374 (c_X9_isPage l G ad _ d_ad1 dw x1 u2 e2) (CutX.take dO_f CutX.none) _ (gx_h dO_o) rfl ⟨rfl, rfl⟩ ⟨Nat.le_of_ble_eq_true rfl, Nat.le_of_ble_eq_true rfl⟩ rfl ⟨Nat.zero_le _, Nat.zero_le _⟩ rfl (Nat.le_of_ble_eq_true rfl) dX9_read_7 (fun H locs hw => ?_)
  refine lv_if_eq (tgt := 23) C.1 C.2.1 dX9_read_10 (by decide) (fun hc => ?_) (fun hc => ?_)
  · replace hf := ifp hf hc
    exact hB_23  d_ad1 hf _ _ hw _ (lv_sub hl [0] rfl)
  · replace hf := ifn hf hc
    refine r_iload0 C hl 2 rfl dX9_read_13 ?_
    refine lv_iconst (v := 0) C.1 C.2.1 dX9_read_14 (by decide) ?_
    refine lv_bipush (v := 15) C.1 C.2.1 dX9_read_15 (by decide) ?_
    obtain ⟨u4, e4, hf⟩ := bx hf
    refine r_callSi (ws' := (dO G ad d_ad1 dw ++ [])) (As := [.int x2, .int 0, .int 15]) (rest := []) C hw hl.1 kX9_in ml_X9_100 (c_X9_in l G _ x2 0 15 u4 e4) CutX.none ⟨rfl, rfl⟩ ⟨Nat.le_of_ble_eq_true rfl, Nat.le_of_ble_eq_true rfl⟩ rfl ⟨Nat.zero_le _, Nat.zero_le _⟩ rfl (Nat.le_of_ble_eq_true rfl) dX9_read_17 (fun H locs hw => ?_)
    refine lv_if_ne (tgt := 29) C.1 C.2.1 dX9_read_20 (by decide) (fun hc => ?_) (fun hc => ?_)
    · replace hf := ifn hf hc
      refine r_aload0 C hl 0 rfl dX9_read_29 ?_
      refine r_iload0 C hl 1 rfl dX9_read_30 ?_
      obtain ⟨u5, e5, hf⟩ := bx hf
      refine r_callVi (ws' := (dO G ad d_ad1 dw ++ [])) (As := [.int x1]) (rest := []) C hw hl.1 kX9_placeOf ml_X9_325 (c_X9_placeOf l G ad _ d_ad1 dw x1 u5 e5) (CutX.take dO_f CutX.none) _ (gx_h dO_o) rfl ⟨rfl, rfl⟩ ⟨Nat.le_of_ble_eq_true rfl, Nat.le_of_ble_eq_true rfl⟩ rfl ⟨Nat.zero_le _, Nat.zero_le _⟩ rfl (Nat.le_of_ble_eq_true rfl) dX9_read_31 (fun H locs hw => ?_)
      refine lv_if_ne (tgt := 45) C.1 C.2.1 dX9_read_34 (by decide) (fun hc => ?_) (fun hc => ?_)
      · replace hf := ifn hf hc
        refine r_aload0 C hl 0 rfl dX9_read_45 ?_
        refine r_aload0 C hl 0 rfl dX9_read_46 ?_
        refine r_get C hw _ (gx_h dO_o) 20 fl_X9_35 rfl dX9_read_47 ?_
        refine lv_sipush (v := 316) C.1 C.2.1 dX9_read_50 (by decide) ?_
        refine lv_bipush (v := 16) C.1 C.2.1 dX9_read_53 (by decide) ?_
        refine r_iload0 C hl 1 rfl dX9_read_55 ?_
        refine lv_imul C.1 C.2.1 dX9_read_56 ?_
        refine lv_iadd C.1 C.2.1 dX9_read_57 ?_
        refine r_iload0 C hl 2 rfl dX9_read_58 ?_
        refine lv_iadd C.1 C.2.1 dX9_read_59 ?_
        obtain ⟨v6_, e6, hf⟩ := bx hf
        refine r_iald C hw _ (gx_h dO_g20) e6 dX9_read_60 ?_
        obtain ⟨u7, e7, hf⟩ := bx hf
        refine r_callVi (ws' := (dO G ad u7.2 dw ++ [])) (As := [.int v6_]) (rest := []) C hw hl.1 kX9_good ml_X9_222 (c_X9_good l G ad _ d_ad1 dw v6_ u7 e7) (CutX.take dO_f CutX.none) _ (gx_h dO_o) rfl ⟨rfl, rfl⟩ ⟨Nat.le_of_ble_eq_true rfl, Nat.le_of_ble_eq_true rfl⟩ rfl ⟨Nat.zero_le _, Nat.zero_le _⟩ rfl (Nat.le_of_ble_eq_true rfl) dX9_read_61 (fun H locs hw => ?_)
        exact fin_i C hw (Option.some.inj hf) (fun o => o.1) (fun o => (dO G ad o.2 dw ++ [])) rfl rfl dX9_read_64
      · replace hf := ifp hf hc
        refine r_aload0 C hl 0 rfl dX9_read_37 ?_
        refine lv_iconst (v := 5) C.1 C.2.1 dX9_read_38 (by decide) ?_
        obtain ⟨u8, e8, hf⟩ := bx hf
        refine r_callVi (ws' := (dO G ad u8.2 dw ++ [])) (As := [.int 5]) (rest := []) C hw hl.1 kX9_refused ml_X9_210 (c_X9_refused l G ad _ d_ad1 dw 5 u8 e8) (CutX.take dO_f CutX.none) _ (gx_h dO_o) rfl ⟨rfl, rfl⟩ ⟨Nat.le_of_ble_eq_true rfl, Nat.le_of_ble_eq_true rfl⟩ rfl ⟨Nat.zero_le _, Nat.zero_le _⟩ rfl (Nat.le_of_ble_eq_true rfl) dX9_read_39 (fun H locs hw => ?_)
        refine lv_goto (tgt := 64) C.1 C.2.1 dX9_read_42 (by decide) ?_
        exact fin_i C hw (Option.some.inj hf) (fun o => o.1) (fun o => (dO G ad o.2 dw ++ [])) rfl rfl dX9_read_64
    · replace hf := ifp hf hc
      exact hB_23  d_ad1 hf _ _ hw _ (lv_sub hl [0] rfl)
set_option maxHeartbeats 4000000 in
set_option maxRecDepth 100000 in
theorem c_X9_same (l : Launch) (G : GG) (ad : Nat → Nat) (sz : Nat) (d_ad : Pic) (dw : Int64) (x1 x2 : Int32) (out : Int32 × Pic) (hf : f_X9_same d_ad x1 x2 = some out) : Met l yX9_same (.code yX9_same cX9_same 4 (some .int) :: BT) ({ frames := 2, cells := 0, slots := 0, locals := 43 }) (va_Pc [.ref (ad 99), .int x1, .int x2] (PreW G sz (dO G ad d_ad dw ++ []))) (Ans G out.1 (va_A (dO G ad d_ad dw ++ []) sz) (dO G ad out.2 dw ++ [])) 0 0 (va_A (dO G ad d_ad dw ++ []) sz) := by
  refine Met.into (by decide) (Nat.le_of_ble_eq_true rfl) ?_
  intro p e s m below meth c C hsz ls hl hw
  have hl : lv_has ls 4 [(0, .ref (ad 99)), (1, .int x1), (2, .int x2)] := hl
  clear hsz
  generalize va_A (dO G ad d_ad dw ++ []) sz = A at hw ⊢
  have hB_21 : ∀ (d_ad : Pic), b_X9_same_21 x1 x2  d_ad = some out → ∀ (H : Heap) (locs : List Loc), Wd G A s H locs (dO G ad d_ad dw ++ []) → ∀ ls : Array Slot, lv_has ls 4 [(0, .ref (ad 99))] → W p l e ({ frames := 2, cells := 0, slots := 0, locals := 43 }) s m [.ref (ad 99), .int x1, .int x2].toArray below meth c H locs 0 0 (MQ below (Ans G out.1 A (dO G ad out.2 dw ++ [])) [.ref (ad 99), .int x1, .int x2].toArray s 0 0 A) (F0 m 21 ls []) := by
    intro d_ad hf H locs hw ls hl
    unfold b_X9_same_21 at hf
    refine r_aload0 C hl 0 rfl dX9_same_21 ?_
    refine lv_iconst (v := 1) C.1 C.2.1 dX9_same_22 (by decide) ?_
    obtain ⟨u3, e3, hf⟩ := bx hf
    refine r_callVi (ws' := (dO G ad u3.2 dw ++ [])) (As := [.int 1]) (rest := []) C hw hl.1 kX9_refused ml_X9_210 (c_X9_refused l G ad _ d_ad dw 1 u3 e3) (CutX.take dO_f CutX.none) _ (gx_h dO_o) rfl ⟨rfl, rfl⟩ ⟨Nat.le_of_ble_eq_true rfl, Nat.le_of_ble_eq_true rfl⟩ rfl ⟨Nat.zero_le _, Nat.zero_le _⟩ rfl (Nat.le_of_ble_eq_true rfl) dX9_same_23 (fun H locs hw => ?_)
    exact fin_i C hw (Option.some.inj hf) (fun o => o.1) (fun o => (dO G ad o.2 dw ++ [])) rfl rfl dX9_same_26
  have hB_43 : ∀ (d_ad : Pic), b_X9_same_43 x1 x2  d_ad = some out → ∀ (H : Heap) (locs : List Loc), Wd G A s H locs (dO G ad d_ad dw ++ []) → ∀ ls : Array Slot, lv_has ls 4 [(0, .ref (ad 99))] → W p l e ({ frames := 2, cells := 0, slots := 0, locals := 43 }) s m [.ref (ad 99), .int x1, .int x2].toArray below meth c H locs 0 0 (MQ below (Ans G out.1 A (dO G ad out.2 dw ++ [])) [.ref (ad 99), .int x1, .int x2].toArray s 0 0 A) (F0 m 43 ls []) := by
    intro d_ad hf H locs hw ls hl
    unfold b_X9_same_43 at hf
    refine r_aload0 C hl 0 rfl dX9_same_43 ?_
    refine lv_iconst (v := 5) C.1 C.2.1 dX9_same_44 (by decide) ?_
    obtain ⟨u6, e6, hf⟩ := bx hf
    refine r_callVi (ws' := (dO G ad u6.2 dw ++ [])) (As := [.int 5]) (rest := []) C hw hl.1 kX9_refused ml_X9_210 (c_X9_refused l G ad _ d_ad dw 5 u6 e6) (CutX.take dO_f CutX.none) _ (gx_h dO_o) rfl ⟨rfl, rfl⟩ ⟨Nat.le_of_ble_eq_true rfl, Nat.le_of_ble_eq_true rfl⟩ rfl ⟨Nat.zero_le _, Nat.zero_le _⟩ rfl (Nat.le_of_ble_eq_true rfl) dX9_same_45 (fun H locs hw => ?_)
    exact fin_i C hw (Option.some.inj hf) (fun o => o.1) (fun o => (dO G ad o.2 dw ++ [])) rfl rfl dX9_same_48
  have hB_51 : ∀ (k51 : Pic → Int32 → Option (Int32 × Pic)) (hk51 : ∀ (d_ad : Pic) (v3 : Int32), k51 d_ad v3 = some out → ∀ (H : Heap) (locs : List Loc), Wd G A s H locs (dO G ad d_ad dw ++ []) → ∀ ls : Array Slot, lv_has ls 4 [(0, .ref (ad 99)), (1, .int x1), (2, .int x2), (3, .int v3)] → W p l e ({ frames := 2, cells := 0, slots := 0, locals := 43 }) s m [.ref (ad 99), .int x1, .int x2].toArray below meth c H locs 0 0 (MQ below (Ans G out.1 A (dO G ad out.2 dw ++ [])) [.ref (ad 99), .int x1, .int x2].toArray s 0 0 A) (F0 m 51 ls [])), ∀ (d_ad : Pic) (v3 : Int32), b_X9_same_51 x1 x2 k51 d_ad v3 = some out → ∀ (H : Heap) (locs : List Loc), Wd G A s H locs (dO G ad d_ad dw ++ []) → ∀ ls : Array Slot, lv_has ls 4 [(0, .ref (ad 99)), (1, .int x1), (2, .int x2), (3, .int v3)] → W p l e ({ frames := 2, cells := 0, slots := 0, locals := 43 }) s m [.ref (ad 99), .int x1, .int x2].toArray below meth c H locs 0 0 (MQ below (Ans G out.1 A (dO G ad out.2 dw ++ [])) [.ref (ad 99), .int x1, .int x2].toArray s 0 0 A) (F0 m 51 ls []) := by
    intro k51 hk51 d_ad v3 hf H locs hw ls hl
    unfold b_X9_same_51 at hf
    refine r_iload0 C hl 3 rfl dX9_same_51 ?_
    refine lv_bipush (v := 16) C.1 C.2.1 dX9_same_52 (by decide) ?_
    refine lv_icmp_ge (tgt := 102) C.1 C.2.1 dX9_same_54 (by decide) (fun hc => ?_) (fun hc => ?_)
    · replace hf := ifp hf hc
      refine r_aload0 C hl 0 rfl dX9_same_102 ?_
      refine lv_iconst (v := 1) C.1 C.2.1 dX9_same_103 (by decide) ?_
      obtain ⟨u8, e8, hf⟩ := bx hf
      refine r_callVi (ws' := (dO G ad u8.2 dw ++ [])) (As := [.int 1]) (rest := []) C hw hl.1 kX9_good ml_X9_222 (c_X9_good l G ad _ d_ad dw 1 u8 e8) (CutX.take dO_f CutX.none) _ (gx_h dO_o) rfl ⟨rfl, rfl⟩ ⟨Nat.le_of_ble_eq_true rfl, Nat.le_of_ble_eq_true rfl⟩ rfl ⟨Nat.zero_le _, Nat.zero_le _⟩ rfl (Nat.le_of_ble_eq_true rfl) dX9_same_104 (fun H locs hw => ?_)
      exact fin_i C hw (Option.some.inj hf) (fun o => o.1) (fun o => (dO G ad o.2 dw ++ [])) rfl rfl dX9_same_107
    · replace hf := ifn hf hc
      refine r_aload0 C hl 0 rfl dX9_same_57 ?_
      refine r_get C hw _ (gx_h dO_o) 20 fl_X9_35 rfl dX9_same_58 ?_
      refine lv_sipush (v := 316) C.1 C.2.1 dX9_same_61 (by decide) ?_
      refine lv_bipush (v := 16) C.1 C.2.1 dX9_same_64 (by decide) ?_
      refine r_iload0 C hl 1 rfl dX9_same_66 ?_
      refine lv_imul C.1 C.2.1 dX9_same_67 ?_
      refine lv_iadd C.1 C.2.1 dX9_same_68 ?_
      refine r_iload0 C hl 3 rfl dX9_same_69 ?_
      refine lv_iadd C.1 C.2.1 dX9_same_70 ?_
      obtain ⟨v9_, e9, hf⟩ := bx hf
      refine r_iald C hw _ (gx_h dO_g20) e9 dX9_same_71 ?_
      refine r_aload0 C hl 0 rfl dX9_same_72 ?_
      refine r_get C hw _ (gx_h dO_o) 20 fl_X9_35 rfl dX9_same_73 ?_
      refine lv_sipush (v := 316) C.1 C.2.1 dX9_same_76 (by decide) ?_
      refine lv_bipush (v := 16) C.1 C.2.1 dX9_same_79 (by decide) ?_
      refine r_iload0 C hl 2 rfl dX9_same_81 ?_
      refine lv_imul C.1 C.2.1 dX9_same_82 ?_
      refine lv_iadd C.1 C.2.1 dX9_same_83 ?_
      refine r_iload0 C hl 3 rfl dX9_same_84 ?_
      refine lv_iadd C.1 C.2.1 dX9_same_85 ?_
      obtain ⟨v10_, e10, hf⟩ := bx hf
      refine r_iald C hw _ (gx_h dO_g20) e10 dX9_same_86 ?_
      refine lv_icmp_eq (tgt := 96) C.1 C.2.1 dX9_same_87 (by decide) (fun hc => ?_) (fun hc => ?_)
      · replace hf := ifp hf hc
        refine r_iinc C hl 3 (v3 + 1) [(3, .int (v3 + 1)), (0, .ref (ad 99)), (1, .int x1), (2, .int x2)] rfl (iinc_e (by decide)) (by decide) rfl dX9_same_96 (fun ls hl => ?_)
        refine lv_goto (tgt := 51) C.1 C.2.1 dX9_same_99 (by decide) ?_
        exact hk51 d_ad (v3 + 1) hf _ _ hw _ (lv_sub hl [1, 2, 3, 0] rfl)
      · replace hf := ifn hf hc
        refine r_aload0 C hl 0 rfl dX9_same_90 ?_
        refine lv_iconst (v := 0) C.1 C.2.1 dX9_same_91 (by decide) ?_
        obtain ⟨u11, e11, hf⟩ := bx hf
        refine r_callVi (ws' := (dO G ad u11.2 dw ++ [])) (As := [.int 0]) (rest := []) C hw hl.1 kX9_good ml_X9_222 (c_X9_good l G ad _ d_ad dw 0 u11 e11) (CutX.take dO_f CutX.none) _ (gx_h dO_o) rfl ⟨rfl, rfl⟩ ⟨Nat.le_of_ble_eq_true rfl, Nat.le_of_ble_eq_true rfl⟩ rfl ⟨Nat.zero_le _, Nat.zero_le _⟩ rfl (Nat.le_of_ble_eq_true rfl) dX9_same_92 (fun H locs hw => ?_)
        exact fin_i C hw (Option.some.inj hf) (fun o => o.1) (fun o => (dO G ad o.2 dw ++ [])) rfl rfl dX9_same_95
  have hL_51 : ∀ n : Nat, ∀ (d_ad : Pic) (v3 : Int32), L_X9_same_51 x1 x2  n d_ad v3 = some out → ∀ (H : Heap) (locs : List Loc), Wd G A s H locs (dO G ad d_ad dw ++ []) → ∀ ls : Array Slot, lv_has ls 4 [(0, .ref (ad 99)), (1, .int x1), (2, .int x2), (3, .int v3)] → W p l e ({ frames := 2, cells := 0, slots := 0, locals := 43 }) s m [.ref (ad 99), .int x1, .int x2].toArray below meth c H locs 0 0 (MQ below (Ans G out.1 A (dO G ad out.2 dw ++ [])) [.ref (ad 99), .int x1, .int x2].toArray s 0 0 A) (F0 m 51 ls []) := by
    intro  n
    induction n with
    | zero => intro d_ad v3 hf; cases hf
    | succ n ih => exact hB_51 _ ih
  unfold f_X9_same at hf
  refine r_aload0 C hl 0 rfl dX9_same_0 ?_
  refine lv_iconst (v := 0) C.1 C.2.1 dX9_same_1 (by decide) ?_
  obtain ⟨d_ad1, e1, hf⟩ := bx hf
  refine r_put C hw _ (gx_h dO_o) 0 fp_X9_75 rfl rfl (Nat.le_of_ble_eq_true rfl) (dO G ad d_ad1 dw ++ []) (sx_h dO_o (dO_p0 e1)) dX9_same_2 (fun H locs hw => ?_)
  refine r_aload0 C hl 0 rfl dX9_same_5 ?_
  refine r_iload0 C hl 1 rfl dX9_same_6 ?_
  obtain ⟨u2, e2, hf⟩ := bx hf
  refine r_callVi (ws' := (dO G ad d_ad1 dw ++ [])) (As := [.int x1]) (rest := []) C hw hl.1 kX9_isPage ml_X9_374 (c_X9_isPage l G ad _ d_ad1 dw x1 u2 e2) (CutX.take dO_f CutX.none) _ (gx_h dO_o) rfl ⟨rfl, rfl⟩ ⟨Nat.le_of_ble_eq_true rfl, Nat.le_of_ble_eq_true rfl⟩ rfl ⟨Nat.zero_le _, Nat.zero_le _⟩ rfl (Nat.le_of_ble_eq_true rfl) dX9_same_7 (fun H locs hw => ?_)
  refine lv_if_eq (tgt := 21) C.1 C.2.1 dX9_same_10 (by decide) (fun hc => ?_) (fun hc => ?_)
  · replace hf := ifp hf hc
    exact hB_21  d_ad1 hf _ _ hw _ (lv_sub hl [0] rfl)
  · replace hf := ifn hf hc
    refine r_aload0 C hl 0 rfl dX9_same_13 ?_
    refine r_iload0 C hl 2 rfl dX9_same_14 ?_
    obtain ⟨u4, e4, hf⟩ := bx hf
    refine r_callVi (ws' := (dO G ad d_ad1 dw ++ [])) (As := [.int x2]) (rest := []) C hw hl.1 kX9_isPage ml_X9_374 (c_X9_isPage l G ad _ d_ad1 dw x2 u4 e4) (CutX.take dO_f CutX.none) _ (gx_h dO_o) rfl ⟨rfl, rfl⟩ ⟨Nat.le_of_ble_eq_true rfl, Nat.le_of_ble_eq_true rfl⟩ rfl ⟨Nat.zero_le _, Nat.zero_le _⟩ rfl (Nat.le_of_ble_eq_true rfl) dX9_same_15 (fun H locs hw => ?_)
    refine lv_if_ne (tgt := 27) C.1 C.2.1 dX9_same_18 (by decide) (fun hc => ?_) (fun hc => ?_)
    · replace hf := ifn hf hc
      refine r_aload0 C hl 0 rfl dX9_same_27 ?_
      refine r_iload0 C hl 1 rfl dX9_same_28 ?_
      obtain ⟨u5, e5, hf⟩ := bx hf
      refine r_callVi (ws' := (dO G ad d_ad1 dw ++ [])) (As := [.int x1]) (rest := []) C hw hl.1 kX9_placeOf ml_X9_325 (c_X9_placeOf l G ad _ d_ad1 dw x1 u5 e5) (CutX.take dO_f CutX.none) _ (gx_h dO_o) rfl ⟨rfl, rfl⟩ ⟨Nat.le_of_ble_eq_true rfl, Nat.le_of_ble_eq_true rfl⟩ rfl ⟨Nat.zero_le _, Nat.zero_le _⟩ rfl (Nat.le_of_ble_eq_true rfl) dX9_same_29 (fun H locs hw => ?_)
      refine lv_if_eq (tgt := 43) C.1 C.2.1 dX9_same_32 (by decide) (fun hc => ?_) (fun hc => ?_)
      · replace hf := ifp hf hc
        exact hB_43  d_ad1 hf _ _ hw _ (lv_sub hl [0] rfl)
      · replace hf := ifn hf hc
        refine r_aload0 C hl 0 rfl dX9_same_35 ?_
        refine r_iload0 C hl 2 rfl dX9_same_36 ?_
        obtain ⟨u7, e7, hf⟩ := bx hf
        refine r_callVi (ws' := (dO G ad d_ad1 dw ++ [])) (As := [.int x2]) (rest := []) C hw hl.1 kX9_placeOf ml_X9_325 (c_X9_placeOf l G ad _ d_ad1 dw x2 u7 e7) (CutX.take dO_f CutX.none) _ (gx_h dO_o) rfl ⟨rfl, rfl⟩ ⟨Nat.le_of_ble_eq_true rfl, Nat.le_of_ble_eq_true rfl⟩ rfl ⟨Nat.zero_le _, Nat.zero_le _⟩ rfl (Nat.le_of_ble_eq_true rfl) dX9_same_37 (fun H locs hw => ?_)
        refine lv_if_ne (tgt := 49) C.1 C.2.1 dX9_same_40 (by decide) (fun hc => ?_) (fun hc => ?_)
        · replace hf := ifn hf hc
          refine lv_iconst (v := 0) C.1 C.2.1 dX9_same_49 (by decide) ?_
          refine r_istore0 C hl [(3, .int 0), (0, .ref (ad 99)), (1, .int x1), (2, .int x2)] (by decide) rfl dX9_same_50 (fun ls hl => ?_)
          exact hL_51  FU d_ad1 0 hf _ _ hw _ (lv_sub hl [1, 2, 3, 0] rfl)
        · replace hf := ifp hf hc
          exact hB_43  d_ad1 hf _ _ hw _ (lv_sub hl [0] rfl)
    · replace hf := ifp hf hc
      exact hB_21  d_ad1 hf _ _ hw _ (lv_sub hl [0] rfl)
set_option maxHeartbeats 4000000 in
set_option maxRecDepth 100000 in
theorem c_X9_coldest (l : Launch) (G : GG) (ad : Nat → Nat) (sz : Nat) (d_ad : Pic) (dw : Int64) (x1 : Int32) (out : Int32 × Pic) (hf : f_X9_coldest d_ad x1 = some out) : Met l yX9_coldest (.code yX9_coldest cX9_coldest 4 (some .int) :: BT) ({ frames := 2, cells := 0, slots := 0, locals := 43 }) (va_Pc [.ref (ad 99), .int x1] (PreW G sz (dO G ad d_ad dw ++ []))) (Ans G out.1 (va_A (dO G ad d_ad dw ++ []) sz) (dO G ad out.2 dw ++ [])) 0 0 (va_A (dO G ad d_ad dw ++ []) sz) := by
  refine Met.into (by decide) (Nat.le_of_ble_eq_true rfl) ?_
  intro p e s m below meth c C hsz ls hl hw
  have hl : lv_has ls 4 [(0, .ref (ad 99)), (1, .int x1)] := hl
  clear hsz
  generalize va_A (dO G ad d_ad dw ++ []) sz = A at hw ⊢
  have hB_21 : ∀ (k21 : Pic → Int32 → Option (Int32 × Pic)) (hk21 : ∀ (d_ad : Pic) (v2 : Int32), k21 d_ad v2 = some out → ∀ (H : Heap) (locs : List Loc), Wd G A s H locs (dO G ad d_ad dw ++ []) → ∀ ls : Array Slot, lv_has ls 4 [(0, .ref (ad 99)), (1, .int x1), (2, .int v2)] → W p l e ({ frames := 2, cells := 0, slots := 0, locals := 43 }) s m [.ref (ad 99), .int x1].toArray below meth c H locs 0 0 (MQ below (Ans G out.1 A (dO G ad out.2 dw ++ [])) [.ref (ad 99), .int x1].toArray s 0 0 A) (F0 m 21 ls [])), ∀ (d_ad : Pic) (v2 : Int32), b_X9_coldest_21 x1 k21 d_ad v2 = some out → ∀ (H : Heap) (locs : List Loc), Wd G A s H locs (dO G ad d_ad dw ++ []) → ∀ ls : Array Slot, lv_has ls 4 [(0, .ref (ad 99)), (1, .int x1), (2, .int v2)] → W p l e ({ frames := 2, cells := 0, slots := 0, locals := 43 }) s m [.ref (ad 99), .int x1].toArray below meth c H locs 0 0 (MQ below (Ans G out.1 A (dO G ad out.2 dw ++ [])) [.ref (ad 99), .int x1].toArray s 0 0 A) (F0 m 21 ls []) := by
    intro k21 hk21 d_ad v2 hf H locs hw ls hl
    unfold b_X9_coldest_21 at hf
    refine r_iload0 C hl 2 rfl dX9_coldest_21 ?_
    refine r_aload0 C hl 0 rfl dX9_coldest_22 ?_
    refine r_get C hw _ (gx_h dO_o) 20 fl_X9_35 rfl dX9_coldest_23 ?_
    refine lv_sipush (v := 315) C.1 C.2.1 dX9_coldest_26 (by decide) ?_
    obtain ⟨v3_, e3, hf⟩ := bx hf
    refine r_iald C hw _ (gx_h dO_g20) e3 dX9_coldest_29 ?_
    refine lv_icmp_ge (tgt := 74) C.1 C.2.1 dX9_coldest_30 (by decide) (fun hc => ?_) (fun hc => ?_)
    · replace hf := ifp hf hc
      refine r_aload0 C hl 0 rfl dX9_coldest_74 ?_
      refine lv_bipush (v := (-2)) C.1 C.2.1 dX9_coldest_75 (by decide) ?_
      obtain ⟨u4, e4, hf⟩ := bx hf
      refine r_callVi (ws' := (dO G ad u4.2 dw ++ [])) (As := [.int (-2)]) (rest := []) C hw hl.1 kX9_good ml_X9_222 (c_X9_good l G ad _ d_ad dw (-2) u4 e4) (CutX.take dO_f CutX.none) _ (gx_h dO_o) rfl ⟨rfl, rfl⟩ ⟨Nat.le_of_ble_eq_true rfl, Nat.le_of_ble_eq_true rfl⟩ rfl ⟨Nat.zero_le _, Nat.zero_le _⟩ rfl (Nat.le_of_ble_eq_true rfl) dX9_coldest_77 (fun H locs hw => ?_)
      exact fin_i C hw (Option.some.inj hf) (fun o => o.1) (fun o => (dO G ad o.2 dw ++ [])) rfl rfl dX9_coldest_80
    · replace hf := ifn hf hc
      refine r_aload0 C hl 0 rfl dX9_coldest_33 ?_
      refine r_get C hw _ (gx_h dO_o) 20 fl_X9_35 rfl dX9_coldest_34 ?_
      refine lv_sipush (v := 285) C.1 C.2.1 dX9_coldest_37 (by decide) ?_
      refine r_iload0 C hl 2 rfl dX9_coldest_40 ?_
      refine lv_iadd C.1 C.2.1 dX9_coldest_41 ?_
      obtain ⟨v5_, e5, hf⟩ := bx hf
      refine r_iald C hw _ (gx_h dO_g20) e5 dX9_coldest_42 ?_
      refine r_istore0 C hl [(3, .int v5_), (0, .ref (ad 99)), (1, .int x1), (2, .int v2)] (by decide) rfl dX9_coldest_43 (fun ls hl => ?_)
      refine r_aload0 C hl 1 rfl dX9_coldest_44 ?_
      refine r_aload0 C hl 1 rfl dX9_coldest_45 ?_
      refine r_get C hw _ (gx_h dO_o) 20 fl_X9_35 rfl dX9_coldest_46 ?_
      refine lv_sipush (v := 225) C.1 C.2.1 dX9_coldest_49 (by decide) ?_
      refine r_iload0 C hl 0 rfl dX9_coldest_52 ?_
      refine lv_iadd C.1 C.2.1 dX9_coldest_53 ?_
      obtain ⟨v6_, e6, hf⟩ := bx hf
      refine r_iald C hw _ (gx_h dO_g20) e6 dX9_coldest_54 ?_
      obtain ⟨u7, e7, hf⟩ := bx hf
      refine r_callVi (ws' := (dO G ad d_ad dw ++ [])) (As := [.int v6_]) (rest := []) C hw hl.1 kX9_classOf ml_X9_310 (c_X9_classOf l G ad _ d_ad dw v6_ u7 e7) (CutX.take dO_f CutX.none) _ (gx_h dO_o) rfl ⟨rfl, rfl⟩ ⟨Nat.le_of_ble_eq_true rfl, Nat.le_of_ble_eq_true rfl⟩ rfl ⟨Nat.zero_le _, Nat.zero_le _⟩ rfl (Nat.le_of_ble_eq_true rfl) dX9_coldest_55 (fun H locs hw => ?_)
      refine r_iload0 C hl 2 rfl dX9_coldest_58 ?_
      refine lv_icmp_ne (tgt := 68) C.1 C.2.1 dX9_coldest_59 (by decide) (fun hc => ?_) (fun hc => ?_)
      · replace hf := ifn hf hc
        refine r_iinc C hl 3 (v2 + 1) [(2, .int (v2 + 1)), (3, .int v5_), (0, .ref (ad 99)), (1, .int x1)] rfl (iinc_e (by decide)) (by decide) rfl dX9_coldest_68 (fun ls hl => ?_)
        refine lv_goto (tgt := 21) C.1 C.2.1 dX9_coldest_71 (by decide) ?_
        exact hk21 d_ad (v2 + 1) hf _ _ hw _ (lv_sub hl [2, 3, 0] rfl)
      · replace hf := ifp hf hc
        refine r_aload0 C hl 1 rfl dX9_coldest_62 ?_
        refine r_iload0 C hl 0 rfl dX9_coldest_63 ?_
        obtain ⟨u8, e8, hf⟩ := bx hf
        refine r_callVi (ws' := (dO G ad u8.2 dw ++ [])) (As := [.int v5_]) (rest := []) C hw hl.1 kX9_good ml_X9_222 (c_X9_good l G ad _ d_ad dw v5_ u8 e8) (CutX.take dO_f CutX.none) _ (gx_h dO_o) rfl ⟨rfl, rfl⟩ ⟨Nat.le_of_ble_eq_true rfl, Nat.le_of_ble_eq_true rfl⟩ rfl ⟨Nat.zero_le _, Nat.zero_le _⟩ rfl (Nat.le_of_ble_eq_true rfl) dX9_coldest_64 (fun H locs hw => ?_)
        exact fin_i C hw (Option.some.inj hf) (fun o => o.1) (fun o => (dO G ad o.2 dw ++ [])) rfl rfl dX9_coldest_67
  have hL_21 : ∀ n : Nat, ∀ (d_ad : Pic) (v2 : Int32), L_X9_coldest_21 x1  n d_ad v2 = some out → ∀ (H : Heap) (locs : List Loc), Wd G A s H locs (dO G ad d_ad dw ++ []) → ∀ ls : Array Slot, lv_has ls 4 [(0, .ref (ad 99)), (1, .int x1), (2, .int v2)] → W p l e ({ frames := 2, cells := 0, slots := 0, locals := 43 }) s m [.ref (ad 99), .int x1].toArray below meth c H locs 0 0 (MQ below (Ans G out.1 A (dO G ad out.2 dw ++ [])) [.ref (ad 99), .int x1].toArray s 0 0 A) (F0 m 21 ls []) := by
    intro  n
    induction n with
    | zero => intro d_ad v2 hf; cases hf
    | succ n ih => exact hB_21 _ ih
  unfold f_X9_coldest at hf
  refine r_aload0 C hl 0 rfl dX9_coldest_0 ?_
  refine lv_iconst (v := 0) C.1 C.2.1 dX9_coldest_1 (by decide) ?_
  obtain ⟨d_ad1, e1, hf⟩ := bx hf
  refine r_put C hw _ (gx_h dO_o) 0 fp_X9_75 rfl rfl (Nat.le_of_ble_eq_true rfl) (dO G ad d_ad1 dw ++ []) (sx_h dO_o (dO_p0 e1)) dX9_coldest_2 (fun H locs hw => ?_)
  refine r_aload0 C hl 0 rfl dX9_coldest_5 ?_
  refine r_iload0 C hl 1 rfl dX9_coldest_6 ?_
  obtain ⟨u2, e2, hf⟩ := bx hf
  refine r_callVi (ws' := (dO G ad d_ad1 dw ++ [])) (As := [.int x1]) (rest := []) C hw hl.1 kX9_isClass ml_X9_292 (c_X9_isClass l G ad _ d_ad1 dw x1 u2 e2) (CutX.take dO_f CutX.none) _ (gx_h dO_o) rfl ⟨rfl, rfl⟩ ⟨Nat.le_of_ble_eq_true rfl, Nat.le_of_ble_eq_true rfl⟩ rfl ⟨Nat.zero_le _, Nat.zero_le _⟩ rfl (Nat.le_of_ble_eq_true rfl) dX9_coldest_7 (fun H locs hw => ?_)
  refine lv_if_ne (tgt := 19) C.1 C.2.1 dX9_coldest_10 (by decide) (fun hc => ?_) (fun hc => ?_)
  · replace hf := ifn hf hc
    refine lv_iconst (v := 0) C.1 C.2.1 dX9_coldest_19 (by decide) ?_
    refine r_istore0 C hl [(2, .int 0), (0, .ref (ad 99)), (1, .int x1)] (by decide) rfl dX9_coldest_20 (fun ls hl => ?_)
    exact hL_21  FU d_ad1 0 hf _ _ hw _ (lv_sub hl [1, 2, 0] rfl)
  · replace hf := ifp hf hc
    refine r_aload0 C hl 0 rfl dX9_coldest_13 ?_
    refine lv_iconst (v := 1) C.1 C.2.1 dX9_coldest_14 (by decide) ?_
    obtain ⟨u9, e9, hf⟩ := bx hf
    refine r_callVi (ws' := (dO G ad u9.2 dw ++ [])) (As := [.int 1]) (rest := []) C hw hl.1 kX9_refused ml_X9_210 (c_X9_refused l G ad _ d_ad1 dw 1 u9 e9) (CutX.take dO_f CutX.none) _ (gx_h dO_o) rfl ⟨rfl, rfl⟩ ⟨Nat.le_of_ble_eq_true rfl, Nat.le_of_ble_eq_true rfl⟩ rfl ⟨Nat.zero_le _, Nat.zero_le _⟩ rfl (Nat.le_of_ble_eq_true rfl) dX9_coldest_15 (fun H locs hw => ?_)
    exact fin_i C hw (Option.some.inj hf) (fun o => o.1) (fun o => (dO G ad o.2 dw ++ [])) rfl rfl dX9_coldest_18
set_option maxHeartbeats 4000000 in
set_option maxRecDepth 100000 in
theorem c_X9_next (l : Launch) (G : GG) (ad : Nat → Nat) (sz : Nat) (d_ad : Pic) (dw : Int64) (x1 : Int32) (out : Int32 × Pic) (hf : f_X9_next d_ad x1 = some out) : Met l yX9_next (.code yX9_next cX9_next 4 (some .int) :: BT) ({ frames := 4, cells := 0, slots := 0, locals := 89 }) (va_Pc [.ref (ad 99), .int x1] (PreW G sz (dO G ad d_ad dw ++ []))) (Ans G out.1 (va_A (dO G ad d_ad dw ++ []) sz) (dO G ad out.2 dw ++ [])) 0 0 (va_A (dO G ad d_ad dw ++ []) sz) := by
  refine Met.into (by decide) (Nat.le_of_ble_eq_true rfl) ?_
  intro p e s m below meth c C hsz ls hl hw
  have hl : lv_has ls 4 [(0, .ref (ad 99)), (1, .int x1)] := hl
  clear hsz
  generalize va_A (dO G ad d_ad dw ++ []) sz = A at hw ⊢
  have hB_89 : ∀ (d_ad : Pic) (t0 : Int32), b_X9_next_89 x1  d_ad t0 = some out → ∀ (H : Heap) (locs : List Loc), Wd G A s H locs (dO G ad d_ad dw ++ []) → ∀ ls : Array Slot, lv_has ls 4 [] → W p l e ({ frames := 4, cells := 0, slots := 0, locals := 89 }) s m [.ref (ad 99), .int x1].toArray below meth c H locs 0 0 (MQ below (Ans G out.1 A (dO G ad out.2 dw ++ [])) [.ref (ad 99), .int x1].toArray s 0 0 A) (F0 m 89 ls [.int t0, .ref (ad 99)]) := by
    intro d_ad t0 hf H locs hw ls hl
    unfold b_X9_next_89 at hf
    obtain ⟨u8, e8, hf⟩ := bx hf
    refine r_callVi (ws' := (dO G ad u8.2 dw ++ [])) (As := [.int t0]) (rest := []) C hw hl.1 kX9_good ml_X9_222 (c_X9_good l G ad _ d_ad dw t0 u8 e8) (CutX.take dO_f CutX.none) _ (gx_h dO_o) rfl ⟨rfl, rfl⟩ ⟨Nat.le_of_ble_eq_true rfl, Nat.le_of_ble_eq_true rfl⟩ rfl ⟨Nat.zero_le _, Nat.zero_le _⟩ rfl (Nat.le_of_ble_eq_true rfl) dX9_next_89 (fun H locs hw => ?_)
    exact fin_i C hw (Option.some.inj hf) (fun o => o.1) (fun o => (dO G ad o.2 dw ++ [])) rfl rfl dX9_next_92
  unfold f_X9_next at hf
  refine r_aload0 C hl 0 rfl dX9_next_0 ?_
  refine lv_iconst (v := 0) C.1 C.2.1 dX9_next_1 (by decide) ?_
  obtain ⟨d_ad1, e1, hf⟩ := bx hf
  refine r_put C hw _ (gx_h dO_o) 0 fp_X9_75 rfl rfl (Nat.le_of_ble_eq_true rfl) (dO G ad d_ad1 dw ++ []) (sx_h dO_o (dO_p0 e1)) dX9_next_2 (fun H locs hw => ?_)
  refine r_aload0 C hl 0 rfl dX9_next_5 ?_
  refine r_get C hw _ (gx_h dO_o) 19 fl_X9_225 rfl dX9_next_6 ?_
  refine lv_if_ne (tgt := 18) C.1 C.2.1 dX9_next_9 (by decide) (fun hc => ?_) (fun hc => ?_)
  · replace hf := ifn hf hc
    refine r_iload0 C hl 1 rfl dX9_next_18 ?_
    refine lv_iconst (v := 2) C.1 C.2.1 dX9_next_19 (by decide) ?_
    refine lv_bipush (v := 15) C.1 C.2.1 dX9_next_20 (by decide) ?_
    obtain ⟨u2, e2, hf⟩ := bx hf
    refine r_callSi (ws' := (dO G ad d_ad1 dw ++ [])) (As := [.int x1, .int 2, .int 15]) (rest := []) C hw hl.1 kX9_in ml_X9_100 (c_X9_in l G _ x1 2 15 u2 e2) CutX.none ⟨rfl, rfl⟩ ⟨Nat.le_of_ble_eq_true rfl, Nat.le_of_ble_eq_true rfl⟩ rfl ⟨Nat.zero_le _, Nat.zero_le _⟩ rfl (Nat.le_of_ble_eq_true rfl) dX9_next_22 (fun H locs hw => ?_)
    refine lv_if_ne (tgt := 34) C.1 C.2.1 dX9_next_25 (by decide) (fun hc => ?_) (fun hc => ?_)
    · replace hf := ifn hf hc
      refine r_iload0 C hl 1 rfl dX9_next_34 ?_
      refine r_aload0 C hl 0 rfl dX9_next_35 ?_
      refine r_get C hw _ (gx_h dO_o) 3 fl_X9_229 rfl dX9_next_36 ?_
      obtain ⟨u3, e3, hf⟩ := bx hf
      refine r_callSi (ws' := (dO G ad d_ad1 dw ++ [])) (As := [.int x1, .int (gS d_ad1 3)]) (rest := []) C hw hl.1 kX9_homeOf ml_X9_289 (c_X9_homeOf l G _ x1 (gS d_ad1 3) u3 e3) CutX.none ⟨rfl, rfl⟩ ⟨Nat.le_of_ble_eq_true rfl, Nat.le_of_ble_eq_true rfl⟩ rfl ⟨Nat.zero_le _, Nat.zero_le _⟩ rfl (Nat.le_of_ble_eq_true rfl) dX9_next_39 (fun H locs hw => ?_)
      refine r_istore0 C hl [(2, .int u3), (0, .ref (ad 99)), (1, .int x1)] (by decide) rfl dX9_next_42 (fun ls hl => ?_)
      refine r_aload0 C hl 1 rfl dX9_next_43 ?_
      refine r_iload0 C hl 0 rfl dX9_next_44 ?_
      refine lv_iconst (v := (-1)) C.1 C.2.1 dX9_next_45 (by decide) ?_
      obtain ⟨u4, e4, hf⟩ := bx hf
      refine r_callVi (ws' := (dO G ad d_ad1 dw ++ [])) (As := [.int u3, .int (-1)]) (rest := []) C hw hl.1 kX9_fullestOf ml_X9_346 (c_X9_fullestOf l G ad _ d_ad1 dw u3 (-1) u4 e4) (CutX.take dO_f CutX.none) _ (gx_h dO_o) rfl ⟨rfl, rfl⟩ ⟨Nat.le_of_ble_eq_true rfl, Nat.le_of_ble_eq_true rfl⟩ rfl ⟨Nat.zero_le _, Nat.zero_le _⟩ rfl (Nat.le_of_ble_eq_true rfl) dX9_next_46 (fun H locs hw => ?_)
      refine r_istore0 C hl [(3, .int u4), (2, .int u3), (0, .ref (ad 99)), (1, .int x1)] (by decide) rfl dX9_next_49 (fun ls hl => ?_)
      refine r_iload0 C hl 0 rfl dX9_next_50 ?_
      refine lv_iconst (v := (-1)) C.1 C.2.1 dX9_next_51 (by decide) ?_
      refine lv_icmp_eq (tgt := 61) C.1 C.2.1 dX9_next_52 (by decide) (fun hc => ?_) (fun hc => ?_)
      · replace hf := ifp hf hc
        refine r_aload0 C hl 2 rfl dX9_next_61 ?_
        refine r_aload0 C hl 2 rfl dX9_next_62 ?_
        obtain ⟨u5, e5, hf⟩ := bx hf
        refine r_callVi (ws' := (dO G ad d_ad1 dw ++ [])) (As := []) (rest := [.ref (ad 99)]) C hw hl.1 kX9_framesNow ml_X9_356 (c_X9_framesNow l G ad _ d_ad1 dw u5 e5) (CutX.take dO_f CutX.none) _ (gx_h dO_o) rfl ⟨rfl, rfl⟩ ⟨Nat.le_of_ble_eq_true rfl, Nat.le_of_ble_eq_true rfl⟩ rfl ⟨Nat.zero_le _, Nat.zero_le _⟩ rfl (Nat.le_of_ble_eq_true rfl) dX9_next_63 (fun H locs hw => ?_)
        refine r_iload0 C hl 1 rfl dX9_next_66 ?_
        obtain ⟨u6, e6, hf⟩ := bx hf
        refine r_callSi (ws' := (dO G ad d_ad1 dw ++ [])) (As := [.int u3]) (rest := [.int u5, .ref (ad 99)]) C hw hl.1 kX9_framesOf ml_X9_286 (c_X9_framesOf l G _ u3 u6 e6) CutX.none ⟨rfl, rfl⟩ ⟨Nat.le_of_ble_eq_true rfl, Nat.le_of_ble_eq_true rfl⟩ rfl ⟨Nat.zero_le _, Nat.zero_le _⟩ rfl (Nat.le_of_ble_eq_true rfl) dX9_next_67 (fun H locs hw => ?_)
        refine lv_iadd C.1 C.2.1 dX9_next_70 ?_
        refine r_aload0 C hl 2 rfl dX9_next_71 ?_
        refine r_get C hw _ (gx_h dO_o) 20 fl_X9_35 rfl dX9_next_72 ?_
        refine lv_iconst (v := 0) C.1 C.2.1 dX9_next_75 (by decide) ?_
        obtain ⟨v7_, e7, hf⟩ := bx hf
        refine r_iald C hw _ (gx_h dO_g20) e7 dX9_next_76 ?_
        refine lv_icmp_gt (tgt := 87) C.1 C.2.1 dX9_next_77 (by decide) (fun hc => ?_) (fun hc => ?_)
        · replace hf := ifp hf hc
          refine lv_bipush (v := (-2)) C.1 C.2.1 dX9_next_87 (by decide) ?_
          exact hB_89  d_ad1 (-2) hf _ _ hw _ (lv_sub hl [] rfl)
        · replace hf := ifn hf hc
          refine r_aload0 C hl 2 rfl dX9_next_80 ?_
          obtain ⟨u9, e9, hf⟩ := bx hf
          refine r_callVi (ws' := (dO G ad d_ad1 dw ++ [])) (As := []) (rest := [.ref (ad 99)]) C hw hl.1 kX9_freeZone ml_X9_359 (c_X9_freeZone l G ad _ d_ad1 dw u9 e9) (CutX.take dO_f CutX.none) _ (gx_h dO_o) rfl ⟨rfl, rfl⟩ ⟨Nat.le_of_ble_eq_true rfl, Nat.le_of_ble_eq_true rfl⟩ rfl ⟨Nat.zero_le _, Nat.zero_le _⟩ rfl (Nat.le_of_ble_eq_true rfl) dX9_next_81 (fun H locs hw => ?_)
          refine lv_goto (tgt := 89) C.1 C.2.1 dX9_next_84 (by decide) ?_
          exact hB_89  d_ad1 u9 hf _ _ hw _ (lv_sub hl [] rfl)
      · replace hf := ifn hf hc
        refine r_aload0 C hl 2 rfl dX9_next_55 ?_
        refine r_iload0 C hl 0 rfl dX9_next_56 ?_
        obtain ⟨u10, e10, hf⟩ := bx hf
        refine r_callVi (ws' := (dO G ad u10.2 dw ++ [])) (As := [.int u4]) (rest := []) C hw hl.1 kX9_good ml_X9_222 (c_X9_good l G ad _ d_ad1 dw u4 u10 e10) (CutX.take dO_f CutX.none) _ (gx_h dO_o) rfl ⟨rfl, rfl⟩ ⟨Nat.le_of_ble_eq_true rfl, Nat.le_of_ble_eq_true rfl⟩ rfl ⟨Nat.zero_le _, Nat.zero_le _⟩ rfl (Nat.le_of_ble_eq_true rfl) dX9_next_57 (fun H locs hw => ?_)
        exact fin_i C hw (Option.some.inj hf) (fun o => o.1) (fun o => (dO G ad o.2 dw ++ [])) rfl rfl dX9_next_60
    · replace hf := ifp hf hc
      refine r_aload0 C hl 0 rfl dX9_next_28 ?_
      refine lv_iconst (v := 2) C.1 C.2.1 dX9_next_29 (by decide) ?_
      obtain ⟨u11, e11, hf⟩ := bx hf
      refine r_callVi (ws' := (dO G ad u11.2 dw ++ [])) (As := [.int 2]) (rest := []) C hw hl.1 kX9_refused ml_X9_210 (c_X9_refused l G ad _ d_ad1 dw 2 u11 e11) (CutX.take dO_f CutX.none) _ (gx_h dO_o) rfl ⟨rfl, rfl⟩ ⟨Nat.le_of_ble_eq_true rfl, Nat.le_of_ble_eq_true rfl⟩ rfl ⟨Nat.zero_le _, Nat.zero_le _⟩ rfl (Nat.le_of_ble_eq_true rfl) dX9_next_30 (fun H locs hw => ?_)
      exact fin_i C hw (Option.some.inj hf) (fun o => o.1) (fun o => (dO G ad o.2 dw ++ [])) rfl rfl dX9_next_33
  · replace hf := ifp hf hc
    refine r_aload0 C hl 0 rfl dX9_next_12 ?_
    refine lv_iconst (v := 1) C.1 C.2.1 dX9_next_13 (by decide) ?_
    obtain ⟨u12, e12, hf⟩ := bx hf
    refine r_callVi (ws' := (dO G ad u12.2 dw ++ [])) (As := [.int 1]) (rest := []) C hw hl.1 kX9_refused ml_X9_210 (c_X9_refused l G ad _ d_ad1 dw 1 u12 e12) (CutX.take dO_f CutX.none) _ (gx_h dO_o) rfl ⟨rfl, rfl⟩ ⟨Nat.le_of_ble_eq_true rfl, Nat.le_of_ble_eq_true rfl⟩ rfl ⟨Nat.zero_le _, Nat.zero_le _⟩ rfl (Nat.le_of_ble_eq_true rfl) dX9_next_14 (fun H locs hw => ?_)
    exact fin_i C hw (Option.some.inj hf) (fun o => o.1) (fun o => (dO G ad o.2 dw ++ [])) rfl rfl dX9_next_17
set_option maxHeartbeats 4000000 in
set_option maxRecDepth 100000 in
theorem c_X9_aged (l : Launch) (G : GG) (ad : Nat → Nat) (sz : Nat) (d_ad : Pic) (dw : Int64) (x1 : Int32) (out : Int32 × Pic) (hf : f_X9_aged d_ad x1 = some out) : Met l yX9_aged (.code yX9_aged cX9_aged 2 (some .int) :: BT) ({ frames := 1, cells := 0, slots := 0, locals := 21 }) (va_Pc [.ref (ad 99), .int x1] (PreW G sz (dO G ad d_ad dw ++ []))) (Ans G out.1 (va_A (dO G ad d_ad dw ++ []) sz) (dO G ad out.2 dw ++ [])) 0 0 (va_A (dO G ad d_ad dw ++ []) sz) := by
  refine Met.into (by decide) (Nat.le_of_ble_eq_true rfl) ?_
  intro p e s m below meth c C hsz ls hl hw
  have hl : lv_has ls 2 [(0, .ref (ad 99)), (1, .int x1)] := hl
  clear hsz
  generalize va_A (dO G ad d_ad dw ++ []) sz = A at hw ⊢
  have hB_28 : ∀ (d_ad : Pic), b_X9_aged_28 x1  d_ad = some out → ∀ (H : Heap) (locs : List Loc), Wd G A s H locs (dO G ad d_ad dw ++ []) → ∀ ls : Array Slot, lv_has ls 2 [(0, .ref (ad 99))] → W p l e ({ frames := 1, cells := 0, slots := 0, locals := 21 }) s m [.ref (ad 99), .int x1].toArray below meth c H locs 0 0 (MQ below (Ans G out.1 A (dO G ad out.2 dw ++ [])) [.ref (ad 99), .int x1].toArray s 0 0 A) (F0 m 28 ls []) := by
    intro d_ad hf H locs hw ls hl
    unfold b_X9_aged_28 at hf
    refine r_aload0 C hl 0 rfl dX9_aged_28 ?_
    refine lv_iconst (v := 1) C.1 C.2.1 dX9_aged_29 (by decide) ?_
    obtain ⟨u2, e2, hf⟩ := bx hf
    refine r_callVi (ws' := (dO G ad u2.2 dw ++ [])) (As := [.int 1]) (rest := []) C hw hl.1 kX9_refused ml_X9_210 (c_X9_refused l G ad _ d_ad dw 1 u2 e2) (CutX.take dO_f CutX.none) _ (gx_h dO_o) rfl ⟨rfl, rfl⟩ ⟨Nat.le_of_ble_eq_true rfl, Nat.le_of_ble_eq_true rfl⟩ rfl ⟨Nat.zero_le _, Nat.zero_le _⟩ rfl (Nat.le_of_ble_eq_true rfl) dX9_aged_30 (fun H locs hw => ?_)
    exact fin_i C hw (Option.some.inj hf) (fun o => o.1) (fun o => (dO G ad o.2 dw ++ [])) rfl rfl dX9_aged_33
  unfold f_X9_aged at hf
  refine r_aload0 C hl 0 rfl dX9_aged_0 ?_
  refine lv_iconst (v := 0) C.1 C.2.1 dX9_aged_1 (by decide) ?_
  obtain ⟨d_ad1, e1, hf⟩ := bx hf
  refine r_put C hw _ (gx_h dO_o) 0 fp_X9_75 rfl rfl (Nat.le_of_ble_eq_true rfl) (dO G ad d_ad1 dw ++ []) (sx_h dO_o (dO_p0 e1)) dX9_aged_2 (fun H locs hw => ?_)
  refine r_aload0 C hl 0 rfl dX9_aged_5 ?_
  refine r_get C hw _ (gx_h dO_o) 19 fl_X9_225 rfl dX9_aged_6 ?_
  refine lv_if_eq (tgt := 28) C.1 C.2.1 dX9_aged_9 (by decide) (fun hc => ?_) (fun hc => ?_)
  · replace hf := ifp hf hc
    exact hB_28  d_ad1 hf _ _ hw _ (lv_sub hl [0] rfl)
  · replace hf := ifn hf hc
    refine r_iload0 C hl 1 rfl dX9_aged_12 ?_
    refine lv_if_lt (tgt := 28) C.1 C.2.1 dX9_aged_13 (by decide) (fun hc => ?_) (fun hc => ?_)
    · replace hf := ifp hf hc
      exact hB_28  d_ad1 hf _ _ hw _ (lv_sub hl [0] rfl)
    · replace hf := ifn hf hc
      refine r_iload0 C hl 1 rfl dX9_aged_16 ?_
      refine r_aload0 C hl 0 rfl dX9_aged_17 ?_
      refine r_get C hw _ (gx_h dO_o) 20 fl_X9_35 rfl dX9_aged_18 ?_
      refine lv_sipush (v := 315) C.1 C.2.1 dX9_aged_21 (by decide) ?_
      obtain ⟨v3_, e3, hf⟩ := bx hf
      refine r_iald C hw _ (gx_h dO_g20) e3 dX9_aged_24 ?_
      refine lv_icmp_lt (tgt := 34) C.1 C.2.1 dX9_aged_25 (by decide) (fun hc => ?_) (fun hc => ?_)
      · replace hf := ifp hf hc
        refine r_aload0 C hl 0 rfl dX9_aged_34 ?_
        refine r_aload0 C hl 0 rfl dX9_aged_35 ?_
        refine r_get C hw _ (gx_h dO_o) 20 fl_X9_35 rfl dX9_aged_36 ?_
        refine lv_sipush (v := 285) C.1 C.2.1 dX9_aged_39 (by decide) ?_
        refine r_iload0 C hl 1 rfl dX9_aged_42 ?_
        refine lv_iadd C.1 C.2.1 dX9_aged_43 ?_
        obtain ⟨v4_, e4, hf⟩ := bx hf
        refine r_iald C hw _ (gx_h dO_g20) e4 dX9_aged_44 ?_
        obtain ⟨u5, e5, hf⟩ := bx hf
        refine r_callVi (ws' := (dO G ad u5.2 dw ++ [])) (As := [.int v4_]) (rest := []) C hw hl.1 kX9_good ml_X9_222 (c_X9_good l G ad _ d_ad1 dw v4_ u5 e5) (CutX.take dO_f CutX.none) _ (gx_h dO_o) rfl ⟨rfl, rfl⟩ ⟨Nat.le_of_ble_eq_true rfl, Nat.le_of_ble_eq_true rfl⟩ rfl ⟨Nat.zero_le _, Nat.zero_le _⟩ rfl (Nat.le_of_ble_eq_true rfl) dX9_aged_45 (fun H locs hw => ?_)
        exact fin_i C hw (Option.some.inj hf) (fun o => o.1) (fun o => (dO G ad o.2 dw ++ [])) rfl rfl dX9_aged_48
      · replace hf := ifn hf hc
        exact hB_28  d_ad1 hf _ _ hw _ (lv_sub hl [0] rfl)
set_option maxHeartbeats 4000000 in
set_option maxRecDepth 100000 in
theorem c_X9_total (l : Launch) (G : GG) (ad : Nat → Nat) (sz : Nat) (d_ad : Pic) (dw : Int64) (x1 : Int32) (out : Int32 × Pic) (hf : f_X9_total d_ad x1 = some out) : Met l yX9_total (.code yX9_total cX9_total 2 (some .int) :: BT) ({ frames := 1, cells := 0, slots := 0, locals := 22 }) (va_Pc [.ref (ad 99), .int x1] (PreW G sz (dO G ad d_ad dw ++ []))) (Ans G out.1 (va_A (dO G ad d_ad dw ++ []) sz) (dO G ad out.2 dw ++ [])) 0 0 (va_A (dO G ad d_ad dw ++ []) sz) := by
  refine Met.into (by decide) (Nat.le_of_ble_eq_true rfl) ?_
  intro p e s m below meth c C hsz ls hl hw
  have hl : lv_has ls 2 [(0, .ref (ad 99)), (1, .int x1)] := hl
  clear hsz
  generalize va_A (dO G ad d_ad dw ++ []) sz = A at hw ⊢
  have hB_21 : ∀ (d_ad : Pic), b_X9_total_21 x1  d_ad = some out → ∀ (H : Heap) (locs : List Loc), Wd G A s H locs (dO G ad d_ad dw ++ []) → ∀ ls : Array Slot, lv_has ls 2 [(0, .ref (ad 99))] → W p l e ({ frames := 1, cells := 0, slots := 0, locals := 22 }) s m [.ref (ad 99), .int x1].toArray below meth c H locs 0 0 (MQ below (Ans G out.1 A (dO G ad out.2 dw ++ [])) [.ref (ad 99), .int x1].toArray s 0 0 A) (F0 m 21 ls []) := by
    intro d_ad hf H locs hw ls hl
    unfold b_X9_total_21 at hf
    refine r_aload0 C hl 0 rfl dX9_total_21 ?_
    refine lv_iconst (v := 1) C.1 C.2.1 dX9_total_22 (by decide) ?_
    obtain ⟨u2, e2, hf⟩ := bx hf
    refine r_callVi (ws' := (dO G ad u2.2 dw ++ [])) (As := [.int 1]) (rest := []) C hw hl.1 kX9_refused ml_X9_210 (c_X9_refused l G ad _ d_ad dw 1 u2 e2) (CutX.take dO_f CutX.none) _ (gx_h dO_o) rfl ⟨rfl, rfl⟩ ⟨Nat.le_of_ble_eq_true rfl, Nat.le_of_ble_eq_true rfl⟩ rfl ⟨Nat.zero_le _, Nat.zero_le _⟩ rfl (Nat.le_of_ble_eq_true rfl) dX9_total_23 (fun H locs hw => ?_)
    exact fin_i C hw (Option.some.inj hf) (fun o => o.1) (fun o => (dO G ad o.2 dw ++ [])) rfl rfl dX9_total_26
  unfold f_X9_total at hf
  refine r_aload0 C hl 0 rfl dX9_total_0 ?_
  refine lv_iconst (v := 0) C.1 C.2.1 dX9_total_1 (by decide) ?_
  obtain ⟨d_ad1, e1, hf⟩ := bx hf
  refine r_put C hw _ (gx_h dO_o) 0 fp_X9_75 rfl rfl (Nat.le_of_ble_eq_true rfl) (dO G ad d_ad1 dw ++ []) (sx_h dO_o (dO_p0 e1)) dX9_total_2 (fun H locs hw => ?_)
  refine r_aload0 C hl 0 rfl dX9_total_5 ?_
  refine r_get C hw _ (gx_h dO_o) 19 fl_X9_225 rfl dX9_total_6 ?_
  refine lv_if_eq (tgt := 21) C.1 C.2.1 dX9_total_9 (by decide) (fun hc => ?_) (fun hc => ?_)
  · replace hf := ifp hf hc
    exact hB_21  d_ad1 hf _ _ hw _ (lv_sub hl [0] rfl)
  · replace hf := ifn hf hc
    refine r_iload0 C hl 1 rfl dX9_total_12 ?_
    refine lv_iconst (v := 0) C.1 C.2.1 dX9_total_13 (by decide) ?_
    refine lv_iconst (v := 3) C.1 C.2.1 dX9_total_14 (by decide) ?_
    obtain ⟨u3, e3, hf⟩ := bx hf
    refine r_callSi (ws' := (dO G ad d_ad1 dw ++ [])) (As := [.int x1, .int 0, .int 3]) (rest := []) C hw hl.1 kX9_in ml_X9_100 (c_X9_in l G _ x1 0 3 u3 e3) CutX.none ⟨rfl, rfl⟩ ⟨Nat.le_of_ble_eq_true rfl, Nat.le_of_ble_eq_true rfl⟩ rfl ⟨Nat.zero_le _, Nat.zero_le _⟩ rfl (Nat.le_of_ble_eq_true rfl) dX9_total_15 (fun H locs hw => ?_)
    refine lv_if_ne (tgt := 27) C.1 C.2.1 dX9_total_18 (by decide) (fun hc => ?_) (fun hc => ?_)
    · replace hf := ifn hf hc
      refine r_aload0 C hl 0 rfl dX9_total_27 ?_
      refine r_aload0 C hl 0 rfl dX9_total_28 ?_
      refine r_get C hw _ (gx_h dO_o) 20 fl_X9_35 rfl dX9_total_29 ?_
      refine lv_iconst (v := 1) C.1 C.2.1 dX9_total_32 (by decide) ?_
      refine r_iload0 C hl 1 rfl dX9_total_33 ?_
      refine lv_iadd C.1 C.2.1 dX9_total_34 ?_
      obtain ⟨v4_, e4, hf⟩ := bx hf
      refine r_iald C hw _ (gx_h dO_g20) e4 dX9_total_35 ?_
      obtain ⟨u5, e5, hf⟩ := bx hf
      refine r_callVi (ws' := (dO G ad u5.2 dw ++ [])) (As := [.int v4_]) (rest := []) C hw hl.1 kX9_good ml_X9_222 (c_X9_good l G ad _ d_ad1 dw v4_ u5 e5) (CutX.take dO_f CutX.none) _ (gx_h dO_o) rfl ⟨rfl, rfl⟩ ⟨Nat.le_of_ble_eq_true rfl, Nat.le_of_ble_eq_true rfl⟩ rfl ⟨Nat.zero_le _, Nat.zero_le _⟩ rfl (Nat.le_of_ble_eq_true rfl) dX9_total_36 (fun H locs hw => ?_)
      exact fin_i C hw (Option.some.inj hf) (fun o => o.1) (fun o => (dO G ad o.2 dw ++ [])) rfl rfl dX9_total_39
    · replace hf := ifp hf hc
      exact hB_21  d_ad1 hf _ _ hw _ (lv_sub hl [0] rfl)
set_option maxHeartbeats 4000000 in
set_option maxRecDepth 100000 in
theorem c_X9_placed (l : Launch) (G : GG) (ad : Nat → Nat) (sz : Nat) (d_ad : Pic) (dw : Int64) (x1 : Int32) (out : Int32) (hf : f_X9_placed d_ad x1 = some out) : Met l yX9_placed (.code yX9_placed cX9_placed 4 (some .int) :: BT) ({ frames := 1, cells := 0, slots := 0, locals := 21 }) (va_Pc [.ref (ad 99), .int x1] (PreW G sz (dO G ad d_ad dw ++ []))) (Ans G out (va_A (dO G ad d_ad dw ++ []) sz) (dO G ad d_ad dw ++ [])) 0 0 (va_A (dO G ad d_ad dw ++ []) sz) := by
  refine Met.into (by decide) (Nat.le_of_ble_eq_true rfl) ?_
  intro p e s m below meth c C hsz ls hl hw
  have hl : lv_has ls 4 [(0, .ref (ad 99)), (1, .int x1)] := hl
  clear hsz
  generalize va_A (dO G ad d_ad dw ++ []) sz = A at hw ⊢
  have hB_4 : ∀ (k4 : Int32 → Int32 → Option (Int32)) (hk4 : ∀ (v2 : Int32) (v3 : Int32), k4 v2 v3 = some out → ∀ (H : Heap) (locs : List Loc), Wd G A s H locs (dO G ad d_ad dw ++ []) → ∀ ls : Array Slot, lv_has ls 4 [(0, .ref (ad 99)), (1, .int x1), (2, .int v2), (3, .int v3)] → W p l e ({ frames := 1, cells := 0, slots := 0, locals := 21 }) s m [.ref (ad 99), .int x1].toArray below meth c H locs 0 0 (MQ below (Ans G out A (dO G ad d_ad dw ++ [])) [.ref (ad 99), .int x1].toArray s 0 0 A) (F0 m 4 ls [])), ∀ (v2 : Int32) (v3 : Int32), b_X9_placed_4 d_ad x1 k4 v2 v3 = some out → ∀ (H : Heap) (locs : List Loc), Wd G A s H locs (dO G ad d_ad dw ++ []) → ∀ ls : Array Slot, lv_has ls 4 [(0, .ref (ad 99)), (1, .int x1), (2, .int v2), (3, .int v3)] → W p l e ({ frames := 1, cells := 0, slots := 0, locals := 21 }) s m [.ref (ad 99), .int x1].toArray below meth c H locs 0 0 (MQ below (Ans G out A (dO G ad d_ad dw ++ [])) [.ref (ad 99), .int x1].toArray s 0 0 A) (F0 m 4 ls []) := by
    intro k4 hk4 v2 v3 hf H locs hw ls hl
    unfold b_X9_placed_4 at hf
    refine r_iload0 C hl 3 rfl dX9_placed_4 ?_
    refine lv_bipush (v := 30) C.1 C.2.1 dX9_placed_5 (by decide) ?_
    refine lv_icmp_ge (tgt := 33) C.1 C.2.1 dX9_placed_7 (by decide) (fun hc => ?_) (fun hc => ?_)
    · replace hf := ifp hf hc
      refine r_iload0 C hl 2 rfl dX9_placed_33 ?_
      exact fin_i C hw (Option.some.inj hf) (fun o => o) (fun o => (dO G ad d_ad dw ++ [])) rfl rfl dX9_placed_34
    · replace hf := ifn hf hc
      refine r_iload0 C hl 2 rfl dX9_placed_10 ?_
      refine r_aload0 C hl 0 rfl dX9_placed_11 ?_
      refine r_iload0 C hl 3 rfl dX9_placed_12 ?_
      obtain ⟨u1, e1, hf⟩ := bx hf
      refine r_callVi (ws' := (dO G ad d_ad dw ++ [])) (As := [.int v3]) (rest := [.int v2]) C hw hl.1 kX9_placeOf ml_X9_325 (c_X9_placeOf l G ad _ d_ad dw v3 u1 e1) (CutX.take dO_f CutX.none) _ (gx_h dO_o) rfl ⟨rfl, rfl⟩ ⟨Nat.le_of_ble_eq_true rfl, Nat.le_of_ble_eq_true rfl⟩ rfl ⟨Nat.zero_le _, Nat.zero_le _⟩ rfl (Nat.le_of_ble_eq_true rfl) dX9_placed_13 (fun H locs hw => ?_)
      refine r_iload0 C hl 1 rfl dX9_placed_16 ?_
      refine lv_icmp_ne (tgt := 24) C.1 C.2.1 dX9_placed_17 (by decide) (fun hc => ?_) (fun hc => ?_)
      · replace hf := ifn hf hc
        refine lv_iconst (v := 0) C.1 C.2.1 dX9_placed_24 (by decide) ?_
        refine lv_iadd C.1 C.2.1 dX9_placed_25 ?_
        refine r_istore0 C hl [(2, .int (v2 + 0)), (0, .ref (ad 99)), (1, .int x1), (3, .int v3)] (by decide) rfl dX9_placed_26 (fun ls hl => ?_)
        refine r_iinc C hl 3 (v3 + 1) [(3, .int (v3 + 1)), (2, .int (v2 + 0)), (0, .ref (ad 99)), (1, .int x1)] rfl (iinc_e (by decide)) (by decide) rfl dX9_placed_27 (fun ls hl => ?_)
        refine lv_goto (tgt := 4) C.1 C.2.1 dX9_placed_30 (by decide) ?_
        exact hk4 (v2 + 0) (v3 + 1) hf _ _ hw _ (lv_sub hl [2, 3, 1, 0] rfl)
      · replace hf := ifp hf hc
        refine lv_iconst (v := 1) C.1 C.2.1 dX9_placed_20 (by decide) ?_
        refine lv_goto (tgt := 25) C.1 C.2.1 dX9_placed_21 (by decide) ?_
        refine lv_iadd C.1 C.2.1 dX9_placed_25 ?_
        refine r_istore0 C hl [(2, .int (v2 + 1)), (0, .ref (ad 99)), (1, .int x1), (3, .int v3)] (by decide) rfl dX9_placed_26 (fun ls hl => ?_)
        refine r_iinc C hl 3 (v3 + 1) [(3, .int (v3 + 1)), (2, .int (v2 + 1)), (0, .ref (ad 99)), (1, .int x1)] rfl (iinc_e (by decide)) (by decide) rfl dX9_placed_27 (fun ls hl => ?_)
        refine lv_goto (tgt := 4) C.1 C.2.1 dX9_placed_30 (by decide) ?_
        exact hk4 (v2 + 1) (v3 + 1) hf _ _ hw _ (lv_sub hl [2, 3, 1, 0] rfl)
  have hL_4 : ∀ n : Nat, ∀ (v2 : Int32) (v3 : Int32), L_X9_placed_4 d_ad x1  n v2 v3 = some out → ∀ (H : Heap) (locs : List Loc), Wd G A s H locs (dO G ad d_ad dw ++ []) → ∀ ls : Array Slot, lv_has ls 4 [(0, .ref (ad 99)), (1, .int x1), (2, .int v2), (3, .int v3)] → W p l e ({ frames := 1, cells := 0, slots := 0, locals := 21 }) s m [.ref (ad 99), .int x1].toArray below meth c H locs 0 0 (MQ below (Ans G out A (dO G ad d_ad dw ++ [])) [.ref (ad 99), .int x1].toArray s 0 0 A) (F0 m 4 ls []) := by
    intro  n
    induction n with
    | zero => intro v2 v3 hf; cases hf
    | succ n ih => exact hB_4 _ ih
  unfold f_X9_placed at hf
  refine lv_iconst (v := 0) C.1 C.2.1 dX9_placed_0 (by decide) ?_
  refine r_istore0 C hl [(2, .int 0), (0, .ref (ad 99)), (1, .int x1)] (by decide) rfl dX9_placed_1 (fun ls hl => ?_)
  refine lv_iconst (v := 0) C.1 C.2.1 dX9_placed_2 (by decide) ?_
  refine r_istore0 C hl [(3, .int 0), (2, .int 0), (0, .ref (ad 99)), (1, .int x1)] (by decide) rfl dX9_placed_3 (fun ls hl => ?_)
  exact hL_4  FU 0 0 hf _ _ hw _ (lv_sub hl [2, 3, 1, 0] rfl)
set_option maxHeartbeats 4000000 in
set_option maxRecDepth 100000 in
theorem c_X9_sizesTogether (l : Launch) (G : GG) (ad : Nat → Nat) (sz : Nat) (d_ad : Pic) (dw : Int64)  (out : Int32) (hf : f_X9_sizesTogether d_ad = some out) : Met l yX9_sizesTogether (.code yX9_sizesTogether cX9_sizesTogether 3 (some .int) :: BT) ({ frames := 1, cells := 0, slots := 0, locals := 21 }) (va_Pc [.ref (ad 99)] (PreW G sz (dO G ad d_ad dw ++ []))) (Ans G out (va_A (dO G ad d_ad dw ++ []) sz) (dO G ad d_ad dw ++ [])) 0 0 (va_A (dO G ad d_ad dw ++ []) sz) := by
  refine Met.into (by decide) (Nat.le_of_ble_eq_true rfl) ?_
  intro p e s m below meth c C hsz ls hl hw
  have hl : lv_has ls 3 [(0, .ref (ad 99))] := hl
  clear hsz
  generalize va_A (dO G ad d_ad dw ++ []) sz = A at hw ⊢
  have hB_4 : ∀ (k4 : Int32 → Int32 → Option (Int32)) (hk4 : ∀ (v1 : Int32) (v2 : Int32), k4 v1 v2 = some out → ∀ (H : Heap) (locs : List Loc), Wd G A s H locs (dO G ad d_ad dw ++ []) → ∀ ls : Array Slot, lv_has ls 3 [(0, .ref (ad 99)), (1, .int v1), (2, .int v2)] → W p l e ({ frames := 1, cells := 0, slots := 0, locals := 21 }) s m [.ref (ad 99)].toArray below meth c H locs 0 0 (MQ below (Ans G out A (dO G ad d_ad dw ++ [])) [.ref (ad 99)].toArray s 0 0 A) (F0 m 4 ls [])), ∀ (v1 : Int32) (v2 : Int32), b_X9_sizesTogether_4 d_ad k4 v1 v2 = some out → ∀ (H : Heap) (locs : List Loc), Wd G A s H locs (dO G ad d_ad dw ++ []) → ∀ ls : Array Slot, lv_has ls 3 [(0, .ref (ad 99)), (1, .int v1), (2, .int v2)] → W p l e ({ frames := 1, cells := 0, slots := 0, locals := 21 }) s m [.ref (ad 99)].toArray below meth c H locs 0 0 (MQ below (Ans G out A (dO G ad d_ad dw ++ [])) [.ref (ad 99)].toArray s 0 0 A) (F0 m 4 ls []) := by
    intro k4 hk4 v1 v2 hf H locs hw ls hl
    unfold b_X9_sizesTogether_4 at hf
    refine r_iload0 C hl 2 rfl dX9_sizesTogether_4 ?_
    refine lv_bipush (v := 30) C.1 C.2.1 dX9_sizesTogether_5 (by decide) ?_
    refine lv_icmp_ge (tgt := 42) C.1 C.2.1 dX9_sizesTogether_7 (by decide) (fun hc => ?_) (fun hc => ?_)
    · replace hf := ifp hf hc
      refine r_iload0 C hl 1 rfl dX9_sizesTogether_42 ?_
      exact fin_i C hw (Option.some.inj hf) (fun o => o) (fun o => (dO G ad d_ad dw ++ [])) rfl rfl dX9_sizesTogether_43
    · replace hf := ifn hf hc
      refine r_iload0 C hl 1 rfl dX9_sizesTogether_10 ?_
      refine r_aload0 C hl 0 rfl dX9_sizesTogether_11 ?_
      refine r_iload0 C hl 2 rfl dX9_sizesTogether_12 ?_
      obtain ⟨u1, e1, hf⟩ := bx hf
      refine r_callVi (ws' := (dO G ad d_ad dw ++ [])) (As := [.int v2]) (rest := [.int v1]) C hw hl.1 kX9_placeOf ml_X9_325 (c_X9_placeOf l G ad _ d_ad dw v2 u1 e1) (CutX.take dO_f CutX.none) _ (gx_h dO_o) rfl ⟨rfl, rfl⟩ ⟨Nat.le_of_ble_eq_true rfl, Nat.le_of_ble_eq_true rfl⟩ rfl ⟨Nat.zero_le _, Nat.zero_le _⟩ rfl (Nat.le_of_ble_eq_true rfl) dX9_sizesTogether_13 (fun H locs hw => ?_)
      refine lv_iconst (v := 2) C.1 C.2.1 dX9_sizesTogether_16 (by decide) ?_
      refine lv_icmp_ne (tgt := 33) C.1 C.2.1 dX9_sizesTogether_17 (by decide) (fun hc => ?_) (fun hc => ?_)
      · replace hf := ifn hf hc
        refine lv_iconst (v := 0) C.1 C.2.1 dX9_sizesTogether_33 (by decide) ?_
        refine lv_iadd C.1 C.2.1 dX9_sizesTogether_34 ?_
        refine r_istore0 C hl [(1, .int (v1 + 0)), (0, .ref (ad 99)), (2, .int v2)] (by decide) rfl dX9_sizesTogether_35 (fun ls hl => ?_)
        refine r_iinc C hl 2 (v2 + 1) [(2, .int (v2 + 1)), (1, .int (v1 + 0)), (0, .ref (ad 99))] rfl (iinc_e (by decide)) (by decide) rfl dX9_sizesTogether_36 (fun ls hl => ?_)
        refine lv_goto (tgt := 4) C.1 C.2.1 dX9_sizesTogether_39 (by decide) ?_
        exact hk4 (v1 + 0) (v2 + 1) hf _ _ hw _ (lv_sub hl [2, 1, 0] rfl)
      · replace hf := ifp hf hc
        refine r_aload0 C hl 0 rfl dX9_sizesTogether_20 ?_
        refine r_get C hw _ (gx_h dO_o) 20 fl_X9_35 rfl dX9_sizesTogether_21 ?_
        refine lv_sipush (v := 195) C.1 C.2.1 dX9_sizesTogether_24 (by decide) ?_
        refine r_iload0 C hl 2 rfl dX9_sizesTogether_27 ?_
        refine lv_iadd C.1 C.2.1 dX9_sizesTogether_28 ?_
        obtain ⟨v2_, e2, hf⟩ := bx hf
        refine r_iald C hw _ (gx_h dO_g20) e2 dX9_sizesTogether_29 ?_
        refine lv_goto (tgt := 34) C.1 C.2.1 dX9_sizesTogether_30 (by decide) ?_
        refine lv_iadd C.1 C.2.1 dX9_sizesTogether_34 ?_
        refine r_istore0 C hl [(1, .int (v1 + v2_)), (0, .ref (ad 99)), (2, .int v2)] (by decide) rfl dX9_sizesTogether_35 (fun ls hl => ?_)
        refine r_iinc C hl 2 (v2 + 1) [(2, .int (v2 + 1)), (1, .int (v1 + v2_)), (0, .ref (ad 99))] rfl (iinc_e (by decide)) (by decide) rfl dX9_sizesTogether_36 (fun ls hl => ?_)
        refine lv_goto (tgt := 4) C.1 C.2.1 dX9_sizesTogether_39 (by decide) ?_
        exact hk4 (v1 + v2_) (v2 + 1) hf _ _ hw _ (lv_sub hl [2, 1, 0] rfl)
  have hL_4 : ∀ n : Nat, ∀ (v1 : Int32) (v2 : Int32), L_X9_sizesTogether_4 d_ad  n v1 v2 = some out → ∀ (H : Heap) (locs : List Loc), Wd G A s H locs (dO G ad d_ad dw ++ []) → ∀ ls : Array Slot, lv_has ls 3 [(0, .ref (ad 99)), (1, .int v1), (2, .int v2)] → W p l e ({ frames := 1, cells := 0, slots := 0, locals := 21 }) s m [.ref (ad 99)].toArray below meth c H locs 0 0 (MQ below (Ans G out A (dO G ad d_ad dw ++ [])) [.ref (ad 99)].toArray s 0 0 A) (F0 m 4 ls []) := by
    intro  n
    induction n with
    | zero => intro v1 v2 hf; cases hf
    | succ n ih => exact hB_4 _ ih
  unfold f_X9_sizesTogether at hf
  refine lv_iconst (v := 0) C.1 C.2.1 dX9_sizesTogether_0 (by decide) ?_
  refine r_istore0 C hl [(1, .int 0), (0, .ref (ad 99))] (by decide) rfl dX9_sizesTogether_1 (fun ls hl => ?_)
  refine lv_iconst (v := 0) C.1 C.2.1 dX9_sizesTogether_2 (by decide) ?_
  refine r_istore0 C hl [(2, .int 0), (1, .int 0), (0, .ref (ad 99))] (by decide) rfl dX9_sizesTogether_3 (fun ls hl => ?_)
  exact hL_4  FU 0 0 hf _ _ hw _ (lv_sub hl [2, 1, 0] rfl)
set_option maxHeartbeats 4000000 in
set_option maxRecDepth 100000 in
theorem c_X9_waste (l : Launch) (G : GG) (ad : Nat → Nat) (sz : Nat) (d_ad : Pic) (dw : Int64)  (out : Int32 × Pic) (hf : f_X9_waste d_ad = some out) : Met l yX9_waste (.code yX9_waste cX9_waste 1 (some .int) :: BT) ({ frames := 2, cells := 0, slots := 0, locals := 44 }) (va_Pc [.ref (ad 99)] (PreW G sz (dO G ad d_ad dw ++ []))) (Ans G out.1 (va_A (dO G ad d_ad dw ++ []) sz) (dO G ad out.2 dw ++ [])) 0 0 (va_A (dO G ad d_ad dw ++ []) sz) := by
  refine Met.into (by decide) (Nat.le_of_ble_eq_true rfl) ?_
  intro p e s m below meth c C hsz ls hl hw
  have hl : lv_has ls 1 [(0, .ref (ad 99))] := hl
  clear hsz
  generalize va_A (dO G ad d_ad dw ++ []) sz = A at hw ⊢
  unfold f_X9_waste at hf
  refine r_aload0 C hl 0 rfl dX9_waste_0 ?_
  refine lv_iconst (v := 0) C.1 C.2.1 dX9_waste_1 (by decide) ?_
  obtain ⟨d_ad1, e1, hf⟩ := bx hf
  refine r_put C hw _ (gx_h dO_o) 0 fp_X9_75 rfl rfl (Nat.le_of_ble_eq_true rfl) (dO G ad d_ad1 dw ++ []) (sx_h dO_o (dO_p0 e1)) dX9_waste_2 (fun H locs hw => ?_)
  refine r_aload0 C hl 0 rfl dX9_waste_5 ?_
  refine r_get C hw _ (gx_h dO_o) 19 fl_X9_225 rfl dX9_waste_6 ?_
  refine lv_if_ne (tgt := 18) C.1 C.2.1 dX9_waste_9 (by decide) (fun hc => ?_) (fun hc => ?_)
  · replace hf := ifn hf hc
    refine r_aload0 C hl 0 rfl dX9_waste_18 ?_
    refine lv_bipush (v := 16) C.1 C.2.1 dX9_waste_19 (by decide) ?_
    refine r_aload0 C hl 0 rfl dX9_waste_21 ?_
    obtain ⟨u2, e2, hf⟩ := bx hf
    refine r_callVi (ws' := (dO G ad d_ad1 dw ++ [])) (As := []) (rest := [.int 16, .ref (ad 99)]) C hw hl.1 kX9_framesNow ml_X9_356 (c_X9_framesNow l G ad _ d_ad1 dw u2 e2) (CutX.take dO_f CutX.none) _ (gx_h dO_o) rfl ⟨rfl, rfl⟩ ⟨Nat.le_of_ble_eq_true rfl, Nat.le_of_ble_eq_true rfl⟩ rfl ⟨Nat.zero_le _, Nat.zero_le _⟩ rfl (Nat.le_of_ble_eq_true rfl) dX9_waste_22 (fun H locs hw => ?_)
    refine lv_imul C.1 C.2.1 dX9_waste_25 ?_
    refine r_aload0 C hl 0 rfl dX9_waste_26 ?_
    obtain ⟨u3, e3, hf⟩ := bx hf
    refine r_callVi (ws' := (dO G ad d_ad1 dw ++ [])) (As := []) (rest := [.int (16 * u2), .ref (ad 99)]) C hw hl.1 kX9_sizesTogether ml_X9_377 (c_X9_sizesTogether l G ad _ d_ad1 dw u3 e3) (CutX.take dO_f CutX.none) _ (gx_h dO_o) rfl ⟨rfl, rfl⟩ ⟨Nat.le_of_ble_eq_true rfl, Nat.le_of_ble_eq_true rfl⟩ rfl ⟨Nat.zero_le _, Nat.zero_le _⟩ rfl (Nat.le_of_ble_eq_true rfl) dX9_waste_27 (fun H locs hw => ?_)
    refine lv_isub C.1 C.2.1 dX9_waste_30 ?_
    obtain ⟨u4, e4, hf⟩ := bx hf
    refine r_callVi (ws' := (dO G ad u4.2 dw ++ [])) (As := [.int ((16 * u2) - u3)]) (rest := []) C hw hl.1 kX9_good ml_X9_222 (c_X9_good l G ad _ d_ad1 dw ((16 * u2) - u3) u4 e4) (CutX.take dO_f CutX.none) _ (gx_h dO_o) rfl ⟨rfl, rfl⟩ ⟨Nat.le_of_ble_eq_true rfl, Nat.le_of_ble_eq_true rfl⟩ rfl ⟨Nat.zero_le _, Nat.zero_le _⟩ rfl (Nat.le_of_ble_eq_true rfl) dX9_waste_31 (fun H locs hw => ?_)
    exact fin_i C hw (Option.some.inj hf) (fun o => o.1) (fun o => (dO G ad o.2 dw ++ [])) rfl rfl dX9_waste_34
  · replace hf := ifp hf hc
    refine r_aload0 C hl 0 rfl dX9_waste_12 ?_
    refine lv_iconst (v := 1) C.1 C.2.1 dX9_waste_13 (by decide) ?_
    obtain ⟨u5, e5, hf⟩ := bx hf
    refine r_callVi (ws' := (dO G ad u5.2 dw ++ [])) (As := [.int 1]) (rest := []) C hw hl.1 kX9_refused ml_X9_210 (c_X9_refused l G ad _ d_ad1 dw 1 u5 e5) (CutX.take dO_f CutX.none) _ (gx_h dO_o) rfl ⟨rfl, rfl⟩ ⟨Nat.le_of_ble_eq_true rfl, Nat.le_of_ble_eq_true rfl⟩ rfl ⟨Nat.zero_le _, Nat.zero_le _⟩ rfl (Nat.le_of_ble_eq_true rfl) dX9_waste_14 (fun H locs hw => ?_)
    exact fin_i C hw (Option.some.inj hf) (fun o => o.1) (fun o => (dO G ad o.2 dw ++ [])) rfl rfl dX9_waste_17
set_option maxHeartbeats 4000000 in
set_option maxRecDepth 100000 in
theorem c_X9_about (l : Launch) (G : GG) (ad : Nat → Nat) (sz : Nat) (d_ad : Pic) (dw : Int64) (x1 : Int32) (out : Int32 × Pic) (hf : f_X9_about d_ad x1 = some out) : Met l yX9_about (.code yX9_about cX9_about 2 (some .int) :: BT) ({ frames := 2, cells := 0, slots := 0, locals := 44 }) (va_Pc [.ref (ad 99), .int x1] (PreW G sz (dO G ad d_ad dw ++ []))) (Ans G out.1 (va_A (dO G ad d_ad dw ++ []) sz) (dO G ad out.2 dw ++ [])) 0 0 (va_A (dO G ad d_ad dw ++ []) sz) := by
  refine Met.into (by decide) (Nat.le_of_ble_eq_true rfl) ?_
  intro p e s m below meth c C hsz ls hl hw
  have hl : lv_has ls 2 [(0, .ref (ad 99)), (1, .int x1)] := hl
  clear hsz
  generalize va_A (dO G ad d_ad dw ++ []) sz = A at hw ⊢
  unfold f_X9_about at hf
  refine r_aload0 C hl 0 rfl dX9_about_0 ?_
  refine lv_iconst (v := 0) C.1 C.2.1 dX9_about_1 (by decide) ?_
  obtain ⟨d_ad1, e1, hf⟩ := bx hf
  refine r_put C hw _ (gx_h dO_o) 0 fp_X9_75 rfl rfl (Nat.le_of_ble_eq_true rfl) (dO G ad d_ad1 dw ++ []) (sx_h dO_o (dO_p0 e1)) dX9_about_2 (fun H locs hw => ?_)
  refine r_aload0 C hl 0 rfl dX9_about_5 ?_
  refine r_get C hw _ (gx_h dO_o) 19 fl_X9_225 rfl dX9_about_6 ?_
  refine lv_if_ne (tgt := 18) C.1 C.2.1 dX9_about_9 (by decide) (fun hc => ?_) (fun hc => ?_)
  · replace hf := ifn hf hc
    refine r_iload0 C hl 1 rfl dX9_about_18 ?_
    rcases Decidable.em (x1 = 0) with hc | h0_
    · replace hf := ifp hf hc
      refine lv_tableIn (tgt := 76) C.1 C.2.1 dX9_about_19 (by rw [hc]; decide) (by rw [hc]; decide) (by rw [hc]; rfl) (by decide) ?_
      refine r_aload0 C hl 0 rfl dX9_about_76 ?_
      refine r_aload0 C hl 0 rfl dX9_about_77 ?_
      refine r_get C hw _ (gx_h dO_o) 20 fl_X9_35 rfl dX9_about_78 ?_
      refine lv_iconst (v := 0) C.1 C.2.1 dX9_about_81 (by decide) ?_
      obtain ⟨v19_, e19, hf⟩ := bx hf
      refine r_iald C hw _ (gx_h dO_g20) e19 dX9_about_82 ?_
      obtain ⟨u20, e20, hf⟩ := bx hf
      refine r_callVi (ws' := (dO G ad u20.2 dw ++ [])) (As := [.int v19_]) (rest := []) C hw hl.1 kX9_good ml_X9_222 (c_X9_good l G ad _ d_ad1 dw v19_ u20 e20) (CutX.take dO_f CutX.none) _ (gx_h dO_o) rfl ⟨rfl, rfl⟩ ⟨Nat.le_of_ble_eq_true rfl, Nat.le_of_ble_eq_true rfl⟩ rfl ⟨Nat.zero_le _, Nat.zero_le _⟩ rfl (Nat.le_of_ble_eq_true rfl) dX9_about_83 (fun H locs hw => ?_)
      exact fin_i C hw (Option.some.inj hf) (fun o => o.1) (fun o => (dO G ad o.2 dw ++ [])) rfl rfl dX9_about_86
    replace hf := ifn hf h0_
    rcases Decidable.em (x1 = 1) with hc | h1_
    · replace hf := ifp hf hc
      refine lv_tableIn (tgt := 87) C.1 C.2.1 dX9_about_19 (by rw [hc]; decide) (by rw [hc]; decide) (by rw [hc]; rfl) (by decide) ?_
      refine r_aload0 C hl 0 rfl dX9_about_87 ?_
      refine r_aload0 C hl 0 rfl dX9_about_88 ?_
      refine r_get C hw _ (gx_h dO_o) 3 fl_X9_229 rfl dX9_about_89 ?_
      obtain ⟨u18, e18, hf⟩ := bx hf
      refine r_callVi (ws' := (dO G ad u18.2 dw ++ [])) (As := [.int (gS d_ad1 3)]) (rest := []) C hw hl.1 kX9_good ml_X9_222 (c_X9_good l G ad _ d_ad1 dw (gS d_ad1 3) u18 e18) (CutX.take dO_f CutX.none) _ (gx_h dO_o) rfl ⟨rfl, rfl⟩ ⟨Nat.le_of_ble_eq_true rfl, Nat.le_of_ble_eq_true rfl⟩ rfl ⟨Nat.zero_le _, Nat.zero_le _⟩ rfl (Nat.le_of_ble_eq_true rfl) dX9_about_92 (fun H locs hw => ?_)
      exact fin_i C hw (Option.some.inj hf) (fun o => o.1) (fun o => (dO G ad o.2 dw ++ [])) rfl rfl dX9_about_95
    replace hf := ifn hf h1_
    rcases Decidable.em (x1 = 2) with hc | h2_
    · replace hf := ifp hf hc
      refine lv_tableIn (tgt := 96) C.1 C.2.1 dX9_about_19 (by rw [hc]; decide) (by rw [hc]; decide) (by rw [hc]; rfl) (by decide) ?_
      refine r_aload0 C hl 0 rfl dX9_about_96 ?_
      refine r_aload0 C hl 0 rfl dX9_about_97 ?_
      refine r_get C hw _ (gx_h dO_o) 4 fl_X9_231 rfl dX9_about_98 ?_
      obtain ⟨u17, e17, hf⟩ := bx hf
      refine r_callVi (ws' := (dO G ad u17.2 dw ++ [])) (As := [.int (gS d_ad1 4)]) (rest := []) C hw hl.1 kX9_good ml_X9_222 (c_X9_good l G ad _ d_ad1 dw (gS d_ad1 4) u17 e17) (CutX.take dO_f CutX.none) _ (gx_h dO_o) rfl ⟨rfl, rfl⟩ ⟨Nat.le_of_ble_eq_true rfl, Nat.le_of_ble_eq_true rfl⟩ rfl ⟨Nat.zero_le _, Nat.zero_le _⟩ rfl (Nat.le_of_ble_eq_true rfl) dX9_about_101 (fun H locs hw => ?_)
      exact fin_i C hw (Option.some.inj hf) (fun o => o.1) (fun o => (dO G ad o.2 dw ++ [])) rfl rfl dX9_about_104
    replace hf := ifn hf h2_
    rcases Decidable.em (x1 = 3) with hc | h3_
    · replace hf := ifp hf hc
      refine lv_tableIn (tgt := 105) C.1 C.2.1 dX9_about_19 (by rw [hc]; decide) (by rw [hc]; decide) (by rw [hc]; rfl) (by decide) ?_
      refine r_aload0 C hl 0 rfl dX9_about_105 ?_
      refine r_aload0 C hl 0 rfl dX9_about_106 ?_
      refine r_get C hw _ (gx_h dO_o) 5 fl_X9_219 rfl dX9_about_107 ?_
      obtain ⟨u16, e16, hf⟩ := bx hf
      refine r_callVi (ws' := (dO G ad u16.2 dw ++ [])) (As := [.int (gS d_ad1 5)]) (rest := []) C hw hl.1 kX9_good ml_X9_222 (c_X9_good l G ad _ d_ad1 dw (gS d_ad1 5) u16 e16) (CutX.take dO_f CutX.none) _ (gx_h dO_o) rfl ⟨rfl, rfl⟩ ⟨Nat.le_of_ble_eq_true rfl, Nat.le_of_ble_eq_true rfl⟩ rfl ⟨Nat.zero_le _, Nat.zero_le _⟩ rfl (Nat.le_of_ble_eq_true rfl) dX9_about_110 (fun H locs hw => ?_)
      exact fin_i C hw (Option.some.inj hf) (fun o => o.1) (fun o => (dO G ad o.2 dw ++ [])) rfl rfl dX9_about_113
    replace hf := ifn hf h3_
    rcases Decidable.em (x1 = 4) with hc | h4_
    · replace hf := ifp hf hc
      refine lv_tableIn (tgt := 114) C.1 C.2.1 dX9_about_19 (by rw [hc]; decide) (by rw [hc]; decide) (by rw [hc]; rfl) (by decide) ?_
      refine r_aload0 C hl 0 rfl dX9_about_114 ?_
      refine r_aload0 C hl 0 rfl dX9_about_115 ?_
      refine r_get C hw _ (gx_h dO_o) 6 fl_X9_233 rfl dX9_about_116 ?_
      obtain ⟨u15, e15, hf⟩ := bx hf
      refine r_callVi (ws' := (dO G ad u15.2 dw ++ [])) (As := [.int (gS d_ad1 6)]) (rest := []) C hw hl.1 kX9_good ml_X9_222 (c_X9_good l G ad _ d_ad1 dw (gS d_ad1 6) u15 e15) (CutX.take dO_f CutX.none) _ (gx_h dO_o) rfl ⟨rfl, rfl⟩ ⟨Nat.le_of_ble_eq_true rfl, Nat.le_of_ble_eq_true rfl⟩ rfl ⟨Nat.zero_le _, Nat.zero_le _⟩ rfl (Nat.le_of_ble_eq_true rfl) dX9_about_119 (fun H locs hw => ?_)
      exact fin_i C hw (Option.some.inj hf) (fun o => o.1) (fun o => (dO G ad o.2 dw ++ [])) rfl rfl dX9_about_122
    replace hf := ifn hf h4_
    rcases Decidable.em (x1 = 5) with hc | h5_
    · replace hf := ifp hf hc
      refine lv_tableIn (tgt := 123) C.1 C.2.1 dX9_about_19 (by rw [hc]; decide) (by rw [hc]; decide) (by rw [hc]; rfl) (by decide) ?_
      refine r_aload0 C hl 0 rfl dX9_about_123 ?_
      refine r_aload0 C hl 0 rfl dX9_about_124 ?_
      obtain ⟨u13, e13, hf⟩ := bx hf
      refine r_callVi (ws' := (dO G ad d_ad1 dw ++ [])) (As := []) (rest := [.ref (ad 99)]) C hw hl.1 kX9_framesNow ml_X9_356 (c_X9_framesNow l G ad _ d_ad1 dw u13 e13) (CutX.take dO_f CutX.none) _ (gx_h dO_o) rfl ⟨rfl, rfl⟩ ⟨Nat.le_of_ble_eq_true rfl, Nat.le_of_ble_eq_true rfl⟩ rfl ⟨Nat.zero_le _, Nat.zero_le _⟩ rfl (Nat.le_of_ble_eq_true rfl) dX9_about_125 (fun H locs hw => ?_)
      obtain ⟨u14, e14, hf⟩ := bx hf
      refine r_callVi (ws' := (dO G ad u14.2 dw ++ [])) (As := [.int u13]) (rest := []) C hw hl.1 kX9_good ml_X9_222 (c_X9_good l G ad _ d_ad1 dw u13 u14 e14) (CutX.take dO_f CutX.none) _ (gx_h dO_o) rfl ⟨rfl, rfl⟩ ⟨Nat.le_of_ble_eq_true rfl, Nat.le_of_ble_eq_true rfl⟩ rfl ⟨Nat.zero_le _, Nat.zero_le _⟩ rfl (Nat.le_of_ble_eq_true rfl) dX9_about_128 (fun H locs hw => ?_)
      exact fin_i C hw (Option.some.inj hf) (fun o => o.1) (fun o => (dO G ad o.2 dw ++ [])) rfl rfl dX9_about_131
    replace hf := ifn hf h5_
    rcases Decidable.em (x1 = 6) with hc | h6_
    · replace hf := ifp hf hc
      refine lv_tableIn (tgt := 132) C.1 C.2.1 dX9_about_19 (by rw [hc]; decide) (by rw [hc]; decide) (by rw [hc]; rfl) (by decide) ?_
      refine r_aload0 C hl 0 rfl dX9_about_132 ?_
      refine r_aload0 C hl 0 rfl dX9_about_133 ?_
      obtain ⟨u11, e11, hf⟩ := bx hf
      refine r_callVi (ws' := (dO G ad d_ad1 dw ++ [])) (As := []) (rest := [.ref (ad 99)]) C hw hl.1 kX9_zonesNow ml_X9_380 (c_X9_zonesNow l G ad _ d_ad1 dw u11 e11) (CutX.take dO_f CutX.none) _ (gx_h dO_o) rfl ⟨rfl, rfl⟩ ⟨Nat.le_of_ble_eq_true rfl, Nat.le_of_ble_eq_true rfl⟩ rfl ⟨Nat.zero_le _, Nat.zero_le _⟩ rfl (Nat.le_of_ble_eq_true rfl) dX9_about_134 (fun H locs hw => ?_)
      obtain ⟨u12, e12, hf⟩ := bx hf
      refine r_callVi (ws' := (dO G ad u12.2 dw ++ [])) (As := [.int u11]) (rest := []) C hw hl.1 kX9_good ml_X9_222 (c_X9_good l G ad _ d_ad1 dw u11 u12 e12) (CutX.take dO_f CutX.none) _ (gx_h dO_o) rfl ⟨rfl, rfl⟩ ⟨Nat.le_of_ble_eq_true rfl, Nat.le_of_ble_eq_true rfl⟩ rfl ⟨Nat.zero_le _, Nat.zero_le _⟩ rfl (Nat.le_of_ble_eq_true rfl) dX9_about_137 (fun H locs hw => ?_)
      exact fin_i C hw (Option.some.inj hf) (fun o => o.1) (fun o => (dO G ad o.2 dw ++ [])) rfl rfl dX9_about_140
    replace hf := ifn hf h6_
    rcases Decidable.em (x1 = 7) with hc | h7_
    · replace hf := ifp hf hc
      refine lv_tableIn (tgt := 141) C.1 C.2.1 dX9_about_19 (by rw [hc]; decide) (by rw [hc]; decide) (by rw [hc]; rfl) (by decide) ?_
      refine r_aload0 C hl 0 rfl dX9_about_141 ?_
      refine r_aload0 C hl 0 rfl dX9_about_142 ?_
      refine r_get C hw _ (gx_h dO_o) 20 fl_X9_35 rfl dX9_about_143 ?_
      refine lv_sipush (v := 315) C.1 C.2.1 dX9_about_146 (by decide) ?_
      obtain ⟨v9_, e9, hf⟩ := bx hf
      refine r_iald C hw _ (gx_h dO_g20) e9 dX9_about_149 ?_
      obtain ⟨u10, e10, hf⟩ := bx hf
      refine r_callVi (ws' := (dO G ad u10.2 dw ++ [])) (As := [.int v9_]) (rest := []) C hw hl.1 kX9_good ml_X9_222 (c_X9_good l G ad _ d_ad1 dw v9_ u10 e10) (CutX.take dO_f CutX.none) _ (gx_h dO_o) rfl ⟨rfl, rfl⟩ ⟨Nat.le_of_ble_eq_true rfl, Nat.le_of_ble_eq_true rfl⟩ rfl ⟨Nat.zero_le _, Nat.zero_le _⟩ rfl (Nat.le_of_ble_eq_true rfl) dX9_about_150 (fun H locs hw => ?_)
      exact fin_i C hw (Option.some.inj hf) (fun o => o.1) (fun o => (dO G ad o.2 dw ++ [])) rfl rfl dX9_about_153
    replace hf := ifn hf h7_
    rcases Decidable.em (x1 = 8) with hc | h8_
    · replace hf := ifp hf hc
      refine lv_tableIn (tgt := 154) C.1 C.2.1 dX9_about_19 (by rw [hc]; decide) (by rw [hc]; decide) (by rw [hc]; rfl) (by decide) ?_
      refine r_aload0 C hl 0 rfl dX9_about_154 ?_
      refine r_aload0 C hl 0 rfl dX9_about_155 ?_
      refine lv_iconst (v := 1) C.1 C.2.1 dX9_about_156 (by decide) ?_
      obtain ⟨u7, e7, hf⟩ := bx hf
      refine r_callVi (ws' := (dO G ad d_ad1 dw ++ [])) (As := [.int 1]) (rest := [.ref (ad 99)]) C hw hl.1 kX9_placed ml_X9_383 (c_X9_placed l G ad _ d_ad1 dw 1 u7 e7) (CutX.take dO_f CutX.none) _ (gx_h dO_o) rfl ⟨rfl, rfl⟩ ⟨Nat.le_of_ble_eq_true rfl, Nat.le_of_ble_eq_true rfl⟩ rfl ⟨Nat.zero_le _, Nat.zero_le _⟩ rfl (Nat.le_of_ble_eq_true rfl) dX9_about_157 (fun H locs hw => ?_)
      obtain ⟨u8, e8, hf⟩ := bx hf
      refine r_callVi (ws' := (dO G ad u8.2 dw ++ [])) (As := [.int u7]) (rest := []) C hw hl.1 kX9_good ml_X9_222 (c_X9_good l G ad _ d_ad1 dw u7 u8 e8) (CutX.take dO_f CutX.none) _ (gx_h dO_o) rfl ⟨rfl, rfl⟩ ⟨Nat.le_of_ble_eq_true rfl, Nat.le_of_ble_eq_true rfl⟩ rfl ⟨Nat.zero_le _, Nat.zero_le _⟩ rfl (Nat.le_of_ble_eq_true rfl) dX9_about_160 (fun H locs hw => ?_)
      exact fin_i C hw (Option.some.inj hf) (fun o => o.1) (fun o => (dO G ad o.2 dw ++ [])) rfl rfl dX9_about_163
    replace hf := ifn hf h8_
    rcases Decidable.em (x1 = 9) with hc | h9_
    · replace hf := ifp hf hc
      refine lv_tableIn (tgt := 164) C.1 C.2.1 dX9_about_19 (by rw [hc]; decide) (by rw [hc]; decide) (by rw [hc]; rfl) (by decide) ?_
      refine r_aload0 C hl 0 rfl dX9_about_164 ?_
      refine r_aload0 C hl 0 rfl dX9_about_165 ?_
      refine lv_iconst (v := 3) C.1 C.2.1 dX9_about_166 (by decide) ?_
      obtain ⟨u5, e5, hf⟩ := bx hf
      refine r_callVi (ws' := (dO G ad d_ad1 dw ++ [])) (As := [.int 3]) (rest := [.ref (ad 99)]) C hw hl.1 kX9_placed ml_X9_383 (c_X9_placed l G ad _ d_ad1 dw 3 u5 e5) (CutX.take dO_f CutX.none) _ (gx_h dO_o) rfl ⟨rfl, rfl⟩ ⟨Nat.le_of_ble_eq_true rfl, Nat.le_of_ble_eq_true rfl⟩ rfl ⟨Nat.zero_le _, Nat.zero_le _⟩ rfl (Nat.le_of_ble_eq_true rfl) dX9_about_167 (fun H locs hw => ?_)
      obtain ⟨u6, e6, hf⟩ := bx hf
      refine r_callVi (ws' := (dO G ad u6.2 dw ++ [])) (As := [.int u5]) (rest := []) C hw hl.1 kX9_good ml_X9_222 (c_X9_good l G ad _ d_ad1 dw u5 u6 e6) (CutX.take dO_f CutX.none) _ (gx_h dO_o) rfl ⟨rfl, rfl⟩ ⟨Nat.le_of_ble_eq_true rfl, Nat.le_of_ble_eq_true rfl⟩ rfl ⟨Nat.zero_le _, Nat.zero_le _⟩ rfl (Nat.le_of_ble_eq_true rfl) dX9_about_170 (fun H locs hw => ?_)
      exact fin_i C hw (Option.some.inj hf) (fun o => o.1) (fun o => (dO G ad o.2 dw ++ [])) rfl rfl dX9_about_173
    replace hf := ifn hf h9_
    rcases Decidable.em (x1 = 10) with hc | h10_
    · replace hf := ifp hf hc
      refine lv_tableIn (tgt := 174) C.1 C.2.1 dX9_about_19 (by rw [hc]; decide) (by rw [hc]; decide) (by rw [hc]; rfl) (by decide) ?_
      refine r_aload0 C hl 0 rfl dX9_about_174 ?_
      refine r_aload0 C hl 0 rfl dX9_about_175 ?_
      obtain ⟨u3, e3, hf⟩ := bx hf
      refine r_callVi (ws' := (dO G ad d_ad1 dw ++ [])) (As := []) (rest := [.ref (ad 99)]) C hw hl.1 kX9_sizesTogether ml_X9_377 (c_X9_sizesTogether l G ad _ d_ad1 dw u3 e3) (CutX.take dO_f CutX.none) _ (gx_h dO_o) rfl ⟨rfl, rfl⟩ ⟨Nat.le_of_ble_eq_true rfl, Nat.le_of_ble_eq_true rfl⟩ rfl ⟨Nat.zero_le _, Nat.zero_le _⟩ rfl (Nat.le_of_ble_eq_true rfl) dX9_about_176 (fun H locs hw => ?_)
      obtain ⟨u4, e4, hf⟩ := bx hf
      refine r_callVi (ws' := (dO G ad u4.2 dw ++ [])) (As := [.int u3]) (rest := []) C hw hl.1 kX9_good ml_X9_222 (c_X9_good l G ad _ d_ad1 dw u3 u4 e4) (CutX.take dO_f CutX.none) _ (gx_h dO_o) rfl ⟨rfl, rfl⟩ ⟨Nat.le_of_ble_eq_true rfl, Nat.le_of_ble_eq_true rfl⟩ rfl ⟨Nat.zero_le _, Nat.zero_le _⟩ rfl (Nat.le_of_ble_eq_true rfl) dX9_about_179 (fun H locs hw => ?_)
      exact fin_i C hw (Option.some.inj hf) (fun o => o.1) (fun o => (dO G ad o.2 dw ++ [])) rfl rfl dX9_about_182
    replace hf := ifn hf h10_
    refine lv_tableOut (tgt := 183) C.1 C.2.1 dX9_about_19 (sw_out11 h0_ h1_ h2_ h3_ h4_ h5_ h6_ h7_ h8_ h9_ h10_) (by decide) ?_
    refine r_aload0 C hl 0 rfl dX9_about_183 ?_
    refine lv_iconst (v := 1) C.1 C.2.1 dX9_about_184 (by decide) ?_
    obtain ⟨u2, e2, hf⟩ := bx hf
    refine r_callVi (ws' := (dO G ad u2.2 dw ++ [])) (As := [.int 1]) (rest := []) C hw hl.1 kX9_refused ml_X9_210 (c_X9_refused l G ad _ d_ad1 dw 1 u2 e2) (CutX.take dO_f CutX.none) _ (gx_h dO_o) rfl ⟨rfl, rfl⟩ ⟨Nat.le_of_ble_eq_true rfl, Nat.le_of_ble_eq_true rfl⟩ rfl ⟨Nat.zero_le _, Nat.zero_le _⟩ rfl (Nat.le_of_ble_eq_true rfl) dX9_about_185 (fun H locs hw => ?_)
    exact fin_i C hw (Option.some.inj hf) (fun o => o.1) (fun o => (dO G ad o.2 dw ++ [])) rfl rfl dX9_about_188
  · replace hf := ifp hf hc
    refine r_aload0 C hl 0 rfl dX9_about_12 ?_
    refine lv_iconst (v := 1) C.1 C.2.1 dX9_about_13 (by decide) ?_
    obtain ⟨u21, e21, hf⟩ := bx hf
    refine r_callVi (ws' := (dO G ad u21.2 dw ++ [])) (As := [.int 1]) (rest := []) C hw hl.1 kX9_refused ml_X9_210 (c_X9_refused l G ad _ d_ad1 dw 1 u21 e21) (CutX.take dO_f CutX.none) _ (gx_h dO_o) rfl ⟨rfl, rfl⟩ ⟨Nat.le_of_ble_eq_true rfl, Nat.le_of_ble_eq_true rfl⟩ rfl ⟨Nat.zero_le _, Nat.zero_le _⟩ rfl (Nat.le_of_ble_eq_true rfl) dX9_about_14 (fun H locs hw => ?_)
    exact fin_i C hw (Option.some.inj hf) (fun o => o.1) (fun o => (dO G ad o.2 dw ++ [])) rfl rfl dX9_about_17
set_option maxHeartbeats 4000000 in
set_option maxRecDepth 100000 in
theorem c_X9_moves (l : Launch) (G : GG) (ad : Nat → Nat) (sz : Nat) (d_ad : Pic) (dw : Int64) (x1 : Int32) (out : Pic) (hf : f_X9_moves d_ad x1 = some out) : Met l yX9_moves (.code yX9_moves cX9_moves 6 none :: BT) ({ frames := 4, cells := 0, slots := 0, locals := 89 }) (va_Pc [.ref (ad 99), .int x1] (PreW G sz (dO G ad d_ad dw ++ []))) (Don G (va_A (dO G ad d_ad dw ++ []) sz) (dO G ad out dw ++ [])) 0 0 (va_A (dO G ad d_ad dw ++ []) sz) := by
  refine Met.into (by decide) (Nat.le_of_ble_eq_true rfl) ?_
  intro p e s m below meth c C hsz ls hl hw
  have hl : lv_has ls 6 [(0, .ref (ad 99)), (1, .int x1)] := hl
  clear hsz
  generalize va_A (dO G ad d_ad dw ++ []) sz = A at hw ⊢
  have hB_17 : ∀ (k17 : Pic → Int32 → Int32 → Int32 → Option (Pic)) (hk17 : ∀ (d_ad : Pic) (v2 : Int32) (v3 : Int32) (v4 : Int32), k17 d_ad v2 v3 v4 = some out → ∀ (H : Heap) (locs : List Loc), Wd G A s H locs (dO G ad d_ad dw ++ []) → ∀ ls : Array Slot, lv_has ls 6 [(0, .ref (ad 99)), (2, .int v2), (3, .int v3), (4, .int v4)] → W p l e ({ frames := 4, cells := 0, slots := 0, locals := 89 }) s m [.ref (ad 99), .int x1].toArray below meth c H locs 0 0 (MQ below (Don G A (dO G ad out dw ++ [])) [.ref (ad 99), .int x1].toArray s 0 0 A) (F0 m 17 ls [])), ∀ (d_ad : Pic) (v2 : Int32) (v3 : Int32) (v4 : Int32), b_X9_moves_17 x1 k17 d_ad v2 v3 v4 = some out → ∀ (H : Heap) (locs : List Loc), Wd G A s H locs (dO G ad d_ad dw ++ []) → ∀ ls : Array Slot, lv_has ls 6 [(0, .ref (ad 99)), (2, .int v2), (3, .int v3), (4, .int v4)] → W p l e ({ frames := 4, cells := 0, slots := 0, locals := 89 }) s m [.ref (ad 99), .int x1].toArray below meth c H locs 0 0 (MQ below (Don G A (dO G ad out dw ++ [])) [.ref (ad 99), .int x1].toArray s 0 0 A) (F0 m 17 ls []) := by
    intro k17 hk17 d_ad v2 v3 v4 hf H locs hw ls hl
    unfold b_X9_moves_17 at hf
    refine r_aload0 C hl 0 rfl dX9_moves_17 ?_
    refine r_get C hw _ (gx_h dO_o) 20 fl_X9_35 rfl dX9_moves_18 ?_
    refine r_iload0 C hl 1 rfl dX9_moves_21 ?_
    refine r_iload C hl 3 rfl dX9_moves_22 ?_
    obtain ⟨u3, e3, hf⟩ := bx hf
    refine r_callSi (ws' := (dO G ad d_ad dw ++ [])) (As := [.int v2, .int v4]) (rest := [.ref (ad 20)]) C hw hl.1 kX9_slotAt ml_X9_304 (c_X9_slotAt l G _ v2 v4 u3 e3) CutX.none ⟨rfl, rfl⟩ ⟨Nat.le_of_ble_eq_true rfl, Nat.le_of_ble_eq_true rfl⟩ rfl ⟨Nat.zero_le _, Nat.zero_le _⟩ rfl (Nat.le_of_ble_eq_true rfl) dX9_moves_24 (fun H locs hw => ?_)
    obtain ⟨v4_, e4, hf⟩ := bx hf
    refine r_iald C hw _ (gx_h dO_g20) e4 dX9_moves_27 ?_
    refine lv_if_ne (tgt := 37) C.1 C.2.1 dX9_moves_28 (by decide) (fun hc => ?_) (fun hc => ?_)
    · replace hf := ifn hf hc
      refine r_aload0 C hl 0 rfl dX9_moves_37 ?_
      refine r_get C hw _ (gx_h dO_o) 20 fl_X9_35 rfl dX9_moves_38 ?_
      refine r_iload0 C hl 1 rfl dX9_moves_41 ?_
      refine r_iload C hl 3 rfl dX9_moves_42 ?_
      obtain ⟨u5, e5, hf⟩ := bx hf
      refine r_callSi (ws' := (dO G ad d_ad dw ++ [])) (As := [.int v2, .int v4]) (rest := [.ref (ad 20)]) C hw hl.1 kX9_slotAt ml_X9_304 (c_X9_slotAt l G _ v2 v4 u5 e5) CutX.none ⟨rfl, rfl⟩ ⟨Nat.le_of_ble_eq_true rfl, Nat.le_of_ble_eq_true rfl⟩ rfl ⟨Nat.zero_le _, Nat.zero_le _⟩ rfl (Nat.le_of_ble_eq_true rfl) dX9_moves_44 (fun H locs hw => ?_)
      obtain ⟨v6_, e6, hf⟩ := bx hf
      refine r_iald C hw _ (gx_h dO_g20) e6 dX9_moves_47 ?_
      refine lv_iconst (v := 1) C.1 C.2.1 dX9_moves_48 (by decide) ?_
      refine lv_isub C.1 C.2.1 dX9_moves_49 ?_
      refine r_istore C hl [(5, .int (v6_ - 1)), (0, .ref (ad 99)), (2, .int v2), (3, .int v3), (4, .int v4)] (by decide) rfl dX9_moves_50 (fun ls hl => ?_)
      refine r_aload0 C hl 1 rfl dX9_moves_52 ?_
      refine r_iload C hl 0 rfl dX9_moves_53 ?_
      obtain ⟨u7, e7, hf⟩ := bx hf
      refine r_callVv (ws' := (dO G ad u7 dw ++ [])) (As := [.int (v6_ - 1)]) (rest := []) C hw hl.1 kX9_leaves ml_X9_328 (c_X9_leaves l G ad _ d_ad dw (v6_ - 1) u7 e7) (CutX.take dO_f CutX.none) _ (gx_h dO_o) rfl ⟨rfl, rfl⟩ ⟨Nat.le_of_ble_eq_true rfl, Nat.le_of_ble_eq_true rfl⟩ rfl ⟨Nat.zero_le _, Nat.zero_le _⟩ rfl (Nat.le_of_ble_eq_true rfl) dX9_moves_55 (fun H locs hw => ?_)
      refine r_aload0 C hl 1 rfl dX9_moves_58 ?_
      refine r_iload C hl 0 rfl dX9_moves_59 ?_
      refine r_iload0 C hl 3 rfl dX9_moves_61 ?_
      obtain ⟨u8, e8, hf⟩ := bx hf
      refine r_callVv (ws' := (dO G ad u8 dw ++ [])) (As := [.int (v6_ - 1), .int v3]) (rest := []) C hw hl.1 kX9_comesInto ml_X9_349 (c_X9_comesInto l G ad _ u7 dw (v6_ - 1) v3 u8 e8) (CutX.take dO_f CutX.none) _ (gx_h dO_o) rfl ⟨rfl, rfl⟩ ⟨Nat.le_of_ble_eq_true rfl, Nat.le_of_ble_eq_true rfl⟩ rfl ⟨Nat.zero_le _, Nat.zero_le _⟩ rfl (Nat.le_of_ble_eq_true rfl) dX9_moves_62 (fun H locs hw => ?_)
      refine r_aload0 C hl 1 rfl dX9_moves_65 ?_
      refine r_get C hw _ (gx_h dO_o) 20 fl_X9_35 rfl dX9_moves_66 ?_
      refine lv_iconst (v := 4) C.1 C.2.1 dX9_moves_69 (by decide) ?_
      refine lv_dup2_11 C.1 C.2.1 dX9_moves_70 rfl rfl ?_
      obtain ⟨v9_, e9, hf⟩ := bx hf
      refine r_iald C hw _ (gx_h dO_g20) e9 dX9_moves_71 ?_
      refine lv_iconst (v := 1) C.1 C.2.1 dX9_moves_72 (by decide) ?_
      refine lv_iadd C.1 C.2.1 dX9_moves_73 ?_
      obtain ⟨d_ad10, e10, hf⟩ := bx hf
      refine r_iast C hw _ (gx_h dO_g20) e10 (dO G ad d_ad10 dw ++ []) (fun h => (sx_h dO_g20 (dO_s20 h))) dX9_moves_74 (fun H locs hw => ?_)
      exact fin_v C hw (Option.some.inj hf) (fun o => (dO G ad o dw ++ [])) rfl dX9_moves_75
    · replace hf := ifp hf hc
      refine r_iinc C hl 3 (v4 + (-1)) [(4, .int (v4 + (-1))), (0, .ref (ad 99)), (2, .int v2), (3, .int v3)] rfl (iinc_e (by decide)) (by decide) rfl dX9_moves_31 (fun ls hl => ?_)
      refine lv_goto (tgt := 17) C.1 C.2.1 dX9_moves_34 (by decide) ?_
      exact hk17 d_ad v2 v3 (v4 + (-1)) hf _ _ hw _ (lv_sub hl [1, 2, 3, 0] rfl)
  have hL_17 : ∀ n : Nat, ∀ (d_ad : Pic) (v2 : Int32) (v3 : Int32) (v4 : Int32), L_X9_moves_17 x1  n d_ad v2 v3 v4 = some out → ∀ (H : Heap) (locs : List Loc), Wd G A s H locs (dO G ad d_ad dw ++ []) → ∀ ls : Array Slot, lv_has ls 6 [(0, .ref (ad 99)), (2, .int v2), (3, .int v3), (4, .int v4)] → W p l e ({ frames := 4, cells := 0, slots := 0, locals := 89 }) s m [.ref (ad 99), .int x1].toArray below meth c H locs 0 0 (MQ below (Don G A (dO G ad out dw ++ [])) [.ref (ad 99), .int x1].toArray s 0 0 A) (F0 m 17 ls []) := by
    intro  n
    induction n with
    | zero => intro d_ad v2 v3 v4 hf; cases hf
    | succ n ih => exact hB_17 _ ih
  unfold f_X9_moves at hf
  refine r_aload0 C hl 0 rfl dX9_moves_0 ?_
  refine r_iload0 C hl 1 rfl dX9_moves_1 ?_
  obtain ⟨u1, e1, hf⟩ := bx hf
  refine r_callVi (ws' := (dO G ad d_ad dw ++ [])) (As := [.int x1]) (rest := []) C hw hl.1 kX9_emptiestOf ml_X9_386 (c_X9_emptiestOf l G ad _ d_ad dw x1 u1 e1) (CutX.take dO_f CutX.none) _ (gx_h dO_o) rfl ⟨rfl, rfl⟩ ⟨Nat.le_of_ble_eq_true rfl, Nat.le_of_ble_eq_true rfl⟩ rfl ⟨Nat.zero_le _, Nat.zero_le _⟩ rfl (Nat.le_of_ble_eq_true rfl) dX9_moves_2 (fun H locs hw => ?_)
  refine r_istore0 C hl [(2, .int u1), (0, .ref (ad 99)), (1, .int x1)] (by decide) rfl dX9_moves_5 (fun ls hl => ?_)
  refine r_aload0 C hl 1 rfl dX9_moves_6 ?_
  refine r_iload0 C hl 2 rfl dX9_moves_7 ?_
  refine r_iload0 C hl 0 rfl dX9_moves_8 ?_
  obtain ⟨u2, e2, hf⟩ := bx hf
  refine r_callVi (ws' := (dO G ad d_ad dw ++ [])) (As := [.int x1, .int u1]) (rest := []) C hw hl.1 kX9_fullestOf ml_X9_346 (c_X9_fullestOf l G ad _ d_ad dw x1 u1 u2 e2) (CutX.take dO_f CutX.none) _ (gx_h dO_o) rfl ⟨rfl, rfl⟩ ⟨Nat.le_of_ble_eq_true rfl, Nat.le_of_ble_eq_true rfl⟩ rfl ⟨Nat.zero_le _, Nat.zero_le _⟩ rfl (Nat.le_of_ble_eq_true rfl) dX9_moves_9 (fun H locs hw => ?_)
  refine r_istore0 C hl [(3, .int u2), (2, .int u1), (0, .ref (ad 99)), (1, .int x1)] (by decide) rfl dX9_moves_12 (fun ls hl => ?_)
  refine lv_bipush (v := 15) C.1 C.2.1 dX9_moves_13 (by decide) ?_
  refine r_istore C hl [(4, .int 15), (3, .int u2), (2, .int u1), (0, .ref (ad 99)), (1, .int x1)] (by decide) rfl dX9_moves_15 (fun ls hl => ?_)
  exact hL_17  FU d_ad u1 u2 15 hf _ _ hw _ (lv_sub hl [3, 2, 1, 0] rfl)
set_option maxHeartbeats 4000000 in
set_option maxRecDepth 100000 in
theorem c_X9_looseOf (l : Launch) (G : GG) (ad : Nat → Nat) (sz : Nat) (d_ad : Pic) (dw : Int64) (x1 : Int32) (out : Int32) (hf : f_X9_looseOf d_ad x1 = some out) : Met l yX9_looseOf (.code yX9_looseOf cX9_looseOf 4 (some .int) :: BT) ({ frames := 3, cells := 0, slots := 0, locals := 65 }) (va_Pc [.ref (ad 99), .int x1] (PreW G sz (dO G ad d_ad dw ++ []))) (Ans G out (va_A (dO G ad d_ad dw ++ []) sz) (dO G ad d_ad dw ++ [])) 0 0 (va_A (dO G ad d_ad dw ++ []) sz) := by
  refine Met.into (by decide) (Nat.le_of_ble_eq_true rfl) ?_
  intro p e s m below meth c C hsz ls hl hw
  have hl : lv_has ls 4 [(0, .ref (ad 99)), (1, .int x1)] := hl
  clear hsz
  generalize va_A (dO G ad d_ad dw ++ []) sz = A at hw ⊢
  have hB_32 : ∀ (k4 : Int32 → Int32 → Option (Int32)) (hk4 : ∀ (v2 : Int32) (v3 : Int32), k4 v2 v3 = some out → ∀ (H : Heap) (locs : List Loc), Wd G A s H locs (dO G ad d_ad dw ++ []) → ∀ ls : Array Slot, lv_has ls 4 [(0, .ref (ad 99)), (1, .int x1), (2, .int v2), (3, .int v3)] → W p l e ({ frames := 3, cells := 0, slots := 0, locals := 65 }) s m [.ref (ad 99), .int x1].toArray below meth c H locs 0 0 (MQ below (Ans G out A (dO G ad d_ad dw ++ [])) [.ref (ad 99), .int x1].toArray s 0 0 A) (F0 m 4 ls [])), ∀ (v3 : Int32) (t0 : Int32), b_X9_looseOf_32 d_ad x1 k4 v3 t0 = some out → ∀ (H : Heap) (locs : List Loc), Wd G A s H locs (dO G ad d_ad dw ++ []) → ∀ ls : Array Slot, lv_has ls 4 [(0, .ref (ad 99)), (1, .int x1), (3, .int v3)] → W p l e ({ frames := 3, cells := 0, slots := 0, locals := 65 }) s m [.ref (ad 99), .int x1].toArray below meth c H locs 0 0 (MQ below (Ans G out A (dO G ad d_ad dw ++ [])) [.ref (ad 99), .int x1].toArray s 0 0 A) (F0 m 32 ls [.int t0]) := by
    intro k4 hk4 v3 t0 hf H locs hw ls hl
    unfold b_X9_looseOf_32 at hf
    refine lv_iconst (v := 0) C.1 C.2.1 dX9_looseOf_32 (by decide) ?_
    refine lv_iadd C.1 C.2.1 dX9_looseOf_33 ?_
    refine r_istore0 C hl [(2, .int (t0 + 0)), (0, .ref (ad 99)), (1, .int x1), (3, .int v3)] (by decide) rfl dX9_looseOf_34 (fun ls hl => ?_)
    refine r_iinc C hl 3 (v3 + 1) [(3, .int (v3 + 1)), (2, .int (t0 + 0)), (0, .ref (ad 99)), (1, .int x1)] rfl (iinc_e (by decide)) (by decide) rfl dX9_looseOf_35 (fun ls hl => ?_)
    refine lv_goto (tgt := 4) C.1 C.2.1 dX9_looseOf_38 (by decide) ?_
    exact hk4 (t0 + 0) (v3 + 1) hf _ _ hw _ (lv_sub hl [2, 3, 1, 0] rfl)
  have hB_4 : ∀ (k4 : Int32 → Int32 → Option (Int32)) (hk4 : ∀ (v2 : Int32) (v3 : Int32), k4 v2 v3 = some out → ∀ (H : Heap) (locs : List Loc), Wd G A s H locs (dO G ad d_ad dw ++ []) → ∀ ls : Array Slot, lv_has ls 4 [(0, .ref (ad 99)), (1, .int x1), (2, .int v2), (3, .int v3)] → W p l e ({ frames := 3, cells := 0, slots := 0, locals := 65 }) s m [.ref (ad 99), .int x1].toArray below meth c H locs 0 0 (MQ below (Ans G out A (dO G ad d_ad dw ++ [])) [.ref (ad 99), .int x1].toArray s 0 0 A) (F0 m 4 ls [])), ∀ (v2 : Int32) (v3 : Int32), b_X9_looseOf_4 d_ad x1 k4 v2 v3 = some out → ∀ (H : Heap) (locs : List Loc), Wd G A s H locs (dO G ad d_ad dw ++ []) → ∀ ls : Array Slot, lv_has ls 4 [(0, .ref (ad 99)), (1, .int x1), (2, .int v2), (3, .int v3)] → W p l e ({ frames := 3, cells := 0, slots := 0, locals := 65 }) s m [.ref (ad 99), .int x1].toArray below meth c H locs 0 0 (MQ below (Ans G out A (dO G ad d_ad dw ++ [])) [.ref (ad 99), .int x1].toArray s 0 0 A) (F0 m 4 ls []) := by
    intro k4 hk4 v2 v3 hf H locs hw ls hl
    unfold b_X9_looseOf_4 at hf
    refine r_iload0 C hl 3 rfl dX9_looseOf_4 ?_
    refine lv_bipush (v := 24) C.1 C.2.1 dX9_looseOf_5 (by decide) ?_
    refine lv_icmp_ge (tgt := 41) C.1 C.2.1 dX9_looseOf_7 (by decide) (fun hc => ?_) (fun hc => ?_)
    · replace hf := ifp hf hc
      refine r_iload0 C hl 2 rfl dX9_looseOf_41 ?_
      exact fin_i C hw (Option.some.inj hf) (fun o => o) (fun o => (dO G ad d_ad dw ++ [])) rfl rfl dX9_looseOf_42
    · replace hf := ifn hf hc
      refine r_iload0 C hl 2 rfl dX9_looseOf_10 ?_
      refine r_aload0 C hl 0 rfl dX9_looseOf_11 ?_
      refine r_iload0 C hl 3 rfl dX9_looseOf_12 ?_
      obtain ⟨u1, e1, hf⟩ := bx hf
      refine r_callVi (ws' := (dO G ad d_ad dw ++ [])) (As := [.int v3]) (rest := [.int v2]) C hw hl.1 kX9_classOf ml_X9_310 (c_X9_classOf l G ad _ d_ad dw v3 u1 e1) (CutX.take dO_f CutX.none) _ (gx_h dO_o) rfl ⟨rfl, rfl⟩ ⟨Nat.le_of_ble_eq_true rfl, Nat.le_of_ble_eq_true rfl⟩ rfl ⟨Nat.zero_le _, Nat.zero_le _⟩ rfl (Nat.le_of_ble_eq_true rfl) dX9_looseOf_13 (fun H locs hw => ?_)
      refine r_iload0 C hl 1 rfl dX9_looseOf_16 ?_
      refine lv_icmp_ne (tgt := 32) C.1 C.2.1 dX9_looseOf_17 (by decide) (fun hc => ?_) (fun hc => ?_)
      · replace hf := ifn hf hc
        exact hB_32 k4 hk4 v3 v2 hf _ _ hw _ (lv_sub hl [0, 1, 3] rfl)
      · replace hf := ifp hf hc
        refine r_aload0 C hl 0 rfl dX9_looseOf_20 ?_
        refine r_iload0 C hl 3 rfl dX9_looseOf_21 ?_
        obtain ⟨u2, e2, hf⟩ := bx hf
        refine r_callVi (ws' := (dO G ad d_ad dw ++ [])) (As := [.int v3]) (rest := [.int v2]) C hw hl.1 kX9_isFull ml_X9_313 (c_X9_isFull l G ad _ d_ad dw v3 u2 e2) (CutX.take dO_f CutX.none) _ (gx_h dO_o) rfl ⟨rfl, rfl⟩ ⟨Nat.le_of_ble_eq_true rfl, Nat.le_of_ble_eq_true rfl⟩ rfl ⟨Nat.zero_le _, Nat.zero_le _⟩ rfl (Nat.le_of_ble_eq_true rfl) dX9_looseOf_22 (fun H locs hw => ?_)
        refine lv_if_ne (tgt := 32) C.1 C.2.1 dX9_looseOf_25 (by decide) (fun hc => ?_) (fun hc => ?_)
        · replace hf := ifn hf hc
          exact hB_32 k4 hk4 v3 v2 hf _ _ hw _ (lv_sub hl [0, 1, 3] rfl)
        · replace hf := ifp hf hc
          refine lv_iconst (v := 1) C.1 C.2.1 dX9_looseOf_28 (by decide) ?_
          refine lv_goto (tgt := 33) C.1 C.2.1 dX9_looseOf_29 (by decide) ?_
          refine lv_iadd C.1 C.2.1 dX9_looseOf_33 ?_
          refine r_istore0 C hl [(2, .int (v2 + 1)), (0, .ref (ad 99)), (1, .int x1), (3, .int v3)] (by decide) rfl dX9_looseOf_34 (fun ls hl => ?_)
          refine r_iinc C hl 3 (v3 + 1) [(3, .int (v3 + 1)), (2, .int (v2 + 1)), (0, .ref (ad 99)), (1, .int x1)] rfl (iinc_e (by decide)) (by decide) rfl dX9_looseOf_35 (fun ls hl => ?_)
          refine lv_goto (tgt := 4) C.1 C.2.1 dX9_looseOf_38 (by decide) ?_
          exact hk4 (v2 + 1) (v3 + 1) hf _ _ hw _ (lv_sub hl [2, 3, 1, 0] rfl)
  have hL_4 : ∀ n : Nat, ∀ (v2 : Int32) (v3 : Int32), L_X9_looseOf_4 d_ad x1  n v2 v3 = some out → ∀ (H : Heap) (locs : List Loc), Wd G A s H locs (dO G ad d_ad dw ++ []) → ∀ ls : Array Slot, lv_has ls 4 [(0, .ref (ad 99)), (1, .int x1), (2, .int v2), (3, .int v3)] → W p l e ({ frames := 3, cells := 0, slots := 0, locals := 65 }) s m [.ref (ad 99), .int x1].toArray below meth c H locs 0 0 (MQ below (Ans G out A (dO G ad d_ad dw ++ [])) [.ref (ad 99), .int x1].toArray s 0 0 A) (F0 m 4 ls []) := by
    intro  n
    induction n with
    | zero => intro v2 v3 hf; cases hf
    | succ n ih => exact hB_4 _ ih
  unfold f_X9_looseOf at hf
  refine lv_iconst (v := 0) C.1 C.2.1 dX9_looseOf_0 (by decide) ?_
  refine r_istore0 C hl [(2, .int 0), (0, .ref (ad 99)), (1, .int x1)] (by decide) rfl dX9_looseOf_1 (fun ls hl => ?_)
  refine lv_iconst (v := 0) C.1 C.2.1 dX9_looseOf_2 (by decide) ?_
  refine r_istore0 C hl [(3, .int 0), (2, .int 0), (0, .ref (ad 99)), (1, .int x1)] (by decide) rfl dX9_looseOf_3 (fun ls hl => ?_)
  exact hL_4  FU 0 0 hf _ _ hw _ (lv_sub hl [2, 3, 1, 0] rfl)
set_option maxHeartbeats 4000000 in
set_option maxRecDepth 100000 in
theorem c_X9_compacts (l : Launch) (G : GG) (ad : Nat → Nat) (sz : Nat) (d_ad : Pic) (dw : Int64)  (out : Int32 × Pic) (hf : f_X9_compacts d_ad = some out) : Met l yX9_compacts (.code yX9_compacts cX9_compacts 3 (some .int) :: BT) ({ frames := 5, cells := 0, slots := 0, locals := 114 }) (va_Pc [.ref (ad 99)] (PreW G sz (dO G ad d_ad dw ++ []))) (Ans G out.1 (va_A (dO G ad d_ad dw ++ []) sz) (dO G ad out.2 dw ++ [])) 0 0 (va_A (dO G ad d_ad dw ++ []) sz) := by
  refine Met.into (by decide) (Nat.le_of_ble_eq_true rfl) ?_
  intro p e s m below meth c C hsz ls hl hw
  have hl : lv_has ls 3 [(0, .ref (ad 99))] := hl
  clear hsz
  generalize va_A (dO G ad d_ad dw ++ []) sz = A at hw ⊢
  have hB_16 : ∀ (k10 : Pic → Int32 → Int32 → Option (Int32 × Pic)) (hk10 : ∀ (d_ad : Pic) (v1 : Int32) (v2 : Int32), k10 d_ad v1 v2 = some out → ∀ (H : Heap) (locs : List Loc), Wd G A s H locs (dO G ad d_ad dw ++ []) → ∀ ls : Array Slot, lv_has ls 3 [(0, .ref (ad 99)), (1, .int v1), (2, .int v2)] → W p l e ({ frames := 5, cells := 0, slots := 0, locals := 114 }) s m [.ref (ad 99)].toArray below meth c H locs 0 0 (MQ below (Ans G out.1 A (dO G ad out.2 dw ++ [])) [.ref (ad 99)].toArray s 0 0 A) (F0 m 10 ls [])) (k16 : Pic → Int32 → Int32 → Option (Int32 × Pic)) (hk16 : ∀ (d_ad : Pic) (v1 : Int32) (v2 : Int32), k16 d_ad v1 v2 = some out → ∀ (H : Heap) (locs : List Loc), Wd G A s H locs (dO G ad d_ad dw ++ []) → ∀ ls : Array Slot, lv_has ls 3 [(0, .ref (ad 99)), (1, .int v1), (2, .int v2)] → W p l e ({ frames := 5, cells := 0, slots := 0, locals := 114 }) s m [.ref (ad 99)].toArray below meth c H locs 0 0 (MQ below (Ans G out.1 A (dO G ad out.2 dw ++ [])) [.ref (ad 99)].toArray s 0 0 A) (F0 m 16 ls [])), ∀ (d_ad : Pic) (v1 : Int32) (v2 : Int32), b_X9_compacts_16  k10 k16 d_ad v1 v2 = some out → ∀ (H : Heap) (locs : List Loc), Wd G A s H locs (dO G ad d_ad dw ++ []) → ∀ ls : Array Slot, lv_has ls 3 [(0, .ref (ad 99)), (1, .int v1), (2, .int v2)] → W p l e ({ frames := 5, cells := 0, slots := 0, locals := 114 }) s m [.ref (ad 99)].toArray below meth c H locs 0 0 (MQ below (Ans G out.1 A (dO G ad out.2 dw ++ [])) [.ref (ad 99)].toArray s 0 0 A) (F0 m 16 ls []) := by
    intro k10 hk10 k16 hk16 d_ad v1 v2 hf H locs hw ls hl
    unfold b_X9_compacts_16 at hf
    refine r_aload0 C hl 0 rfl dX9_compacts_16 ?_
    refine r_iload0 C hl 2 rfl dX9_compacts_17 ?_
    obtain ⟨u3, e3, hf⟩ := bx hf
    refine r_callVi (ws' := (dO G ad d_ad dw ++ [])) (As := [.int v2]) (rest := []) C hw hl.1 kX9_looseOf ml_X9_389 (c_X9_looseOf l G ad _ d_ad dw v2 u3 e3) (CutX.take dO_f CutX.none) _ (gx_h dO_o) rfl ⟨rfl, rfl⟩ ⟨Nat.le_of_ble_eq_true rfl, Nat.le_of_ble_eq_true rfl⟩ rfl ⟨Nat.zero_le _, Nat.zero_le _⟩ rfl (Nat.le_of_ble_eq_true rfl) dX9_compacts_18 (fun H locs hw => ?_)
    refine lv_iconst (v := 1) C.1 C.2.1 dX9_compacts_21 (by decide) ?_
    refine lv_icmp_le (tgt := 33) C.1 C.2.1 dX9_compacts_22 (by decide) (fun hc => ?_) (fun hc => ?_)
    · replace hf := ifp hf hc
      refine r_iload0 C hl 2 rfl dX9_compacts_33 ?_
      refine r_aload0 C hl 0 rfl dX9_compacts_34 ?_
      refine r_get C hw _ (gx_h dO_o) 3 fl_X9_229 rfl dX9_compacts_35 ?_
      refine lv_iadd C.1 C.2.1 dX9_compacts_38 ?_
      refine r_istore0 C hl [(2, .int (v2 + (gS d_ad 3))), (0, .ref (ad 99)), (1, .int v1)] (by decide) rfl dX9_compacts_39 (fun ls hl => ?_)
      refine lv_goto (tgt := 10) C.1 C.2.1 dX9_compacts_40 (by decide) ?_
      exact hk10 d_ad v1 (v2 + (gS d_ad 3)) hf _ _ hw _ (lv_sub hl [1, 2, 0] rfl)
    · replace hf := ifn hf hc
      refine r_aload0 C hl 0 rfl dX9_compacts_25 ?_
      refine r_iload0 C hl 2 rfl dX9_compacts_26 ?_
      obtain ⟨u4, e4, hf⟩ := bx hf
      refine r_callVv (ws' := (dO G ad u4 dw ++ [])) (As := [.int v2]) (rest := []) C hw hl.1 kX9_moves ml_X9_392 (c_X9_moves l G ad _ d_ad dw v2 u4 e4) (CutX.take dO_f CutX.none) _ (gx_h dO_o) rfl ⟨rfl, rfl⟩ ⟨Nat.le_of_ble_eq_true rfl, Nat.le_of_ble_eq_true rfl⟩ rfl ⟨Nat.zero_le _, Nat.zero_le _⟩ rfl (Nat.le_of_ble_eq_true rfl) dX9_compacts_27 (fun H locs hw => ?_)
      refine lv_goto (tgt := 16) C.1 C.2.1 dX9_compacts_30 (by decide) ?_
      exact hk16 u4 v1 v2 hf _ _ hw _ (lv_sub hl [0, 1, 2] rfl)
  have hL_16 : ∀ (k10 : Pic → Int32 → Int32 → Option (Int32 × Pic)) (hk10 : ∀ (d_ad : Pic) (v1 : Int32) (v2 : Int32), k10 d_ad v1 v2 = some out → ∀ (H : Heap) (locs : List Loc), Wd G A s H locs (dO G ad d_ad dw ++ []) → ∀ ls : Array Slot, lv_has ls 3 [(0, .ref (ad 99)), (1, .int v1), (2, .int v2)] → W p l e ({ frames := 5, cells := 0, slots := 0, locals := 114 }) s m [.ref (ad 99)].toArray below meth c H locs 0 0 (MQ below (Ans G out.1 A (dO G ad out.2 dw ++ [])) [.ref (ad 99)].toArray s 0 0 A) (F0 m 10 ls [])), ∀ n : Nat, ∀ (d_ad : Pic) (v1 : Int32) (v2 : Int32), L_X9_compacts_16  k10 n d_ad v1 v2 = some out → ∀ (H : Heap) (locs : List Loc), Wd G A s H locs (dO G ad d_ad dw ++ []) → ∀ ls : Array Slot, lv_has ls 3 [(0, .ref (ad 99)), (1, .int v1), (2, .int v2)] → W p l e ({ frames := 5, cells := 0, slots := 0, locals := 114 }) s m [.ref (ad 99)].toArray below meth c H locs 0 0 (MQ below (Ans G out.1 A (dO G ad out.2 dw ++ [])) [.ref (ad 99)].toArray s 0 0 A) (F0 m 16 ls []) := by
    intro k10 hk10 n
    induction n with
    | zero => intro d_ad v1 v2 hf; cases hf
    | succ n ih => exact hB_16 k10 hk10 _ ih
  have hB_10 : ∀ (k10 : Pic → Int32 → Int32 → Option (Int32 × Pic)) (hk10 : ∀ (d_ad : Pic) (v1 : Int32) (v2 : Int32), k10 d_ad v1 v2 = some out → ∀ (H : Heap) (locs : List Loc), Wd G A s H locs (dO G ad d_ad dw ++ []) → ∀ ls : Array Slot, lv_has ls 3 [(0, .ref (ad 99)), (1, .int v1), (2, .int v2)] → W p l e ({ frames := 5, cells := 0, slots := 0, locals := 114 }) s m [.ref (ad 99)].toArray below meth c H locs 0 0 (MQ below (Ans G out.1 A (dO G ad out.2 dw ++ [])) [.ref (ad 99)].toArray s 0 0 A) (F0 m 10 ls [])), ∀ (d_ad : Pic) (v1 : Int32) (v2 : Int32), b_X9_compacts_10  k10 d_ad v1 v2 = some out → ∀ (H : Heap) (locs : List Loc), Wd G A s H locs (dO G ad d_ad dw ++ []) → ∀ ls : Array Slot, lv_has ls 3 [(0, .ref (ad 99)), (1, .int v1), (2, .int v2)] → W p l e ({ frames := 5, cells := 0, slots := 0, locals := 114 }) s m [.ref (ad 99)].toArray below meth c H locs 0 0 (MQ below (Ans G out.1 A (dO G ad out.2 dw ++ [])) [.ref (ad 99)].toArray s 0 0 A) (F0 m 10 ls []) := by
    intro k10 hk10 d_ad v1 v2 hf H locs hw ls hl
    unfold b_X9_compacts_10 at hf
    refine r_iload0 C hl 2 rfl dX9_compacts_10 ?_
    refine lv_bipush (v := 16) C.1 C.2.1 dX9_compacts_11 (by decide) ?_
    refine lv_icmp_gt (tgt := 43) C.1 C.2.1 dX9_compacts_13 (by decide) (fun hc => ?_) (fun hc => ?_)
    · replace hf := ifp hf hc
      refine r_iload0 C hl 1 rfl dX9_compacts_43 ?_
      refine r_aload0 C hl 0 rfl dX9_compacts_44 ?_
      obtain ⟨u2, e2, hf⟩ := bx hf
      refine r_callVi (ws' := (dO G ad d_ad dw ++ [])) (As := []) (rest := [.int v1]) C hw hl.1 kX9_framesNow ml_X9_356 (c_X9_framesNow l G ad _ d_ad dw u2 e2) (CutX.take dO_f CutX.none) _ (gx_h dO_o) rfl ⟨rfl, rfl⟩ ⟨Nat.le_of_ble_eq_true rfl, Nat.le_of_ble_eq_true rfl⟩ rfl ⟨Nat.zero_le _, Nat.zero_le _⟩ rfl (Nat.le_of_ble_eq_true rfl) dX9_compacts_45 (fun H locs hw => ?_)
      refine lv_isub C.1 C.2.1 dX9_compacts_48 ?_
      exact fin_i C hw (Option.some.inj hf) (fun o => o.1) (fun o => (dO G ad o.2 dw ++ [])) rfl rfl dX9_compacts_49
    · replace hf := ifn hf hc
      exact hL_16 k10 hk10 FU d_ad v1 v2 hf _ _ hw _ (lv_sub hl [0, 1, 2] rfl)
  have hL_10 : ∀ n : Nat, ∀ (d_ad : Pic) (v1 : Int32) (v2 : Int32), L_X9_compacts_10   n d_ad v1 v2 = some out → ∀ (H : Heap) (locs : List Loc), Wd G A s H locs (dO G ad d_ad dw ++ []) → ∀ ls : Array Slot, lv_has ls 3 [(0, .ref (ad 99)), (1, .int v1), (2, .int v2)] → W p l e ({ frames := 5, cells := 0, slots := 0, locals := 114 }) s m [.ref (ad 99)].toArray below meth c H locs 0 0 (MQ below (Ans G out.1 A (dO G ad out.2 dw ++ [])) [.ref (ad 99)].toArray s 0 0 A) (F0 m 10 ls []) := by
    intro  n
    induction n with
    | zero => intro d_ad v1 v2 hf; cases hf
    | succ n ih => exact hB_10 _ ih
  unfold f_X9_compacts at hf
  refine r_aload0 C hl 0 rfl dX9_compacts_0 ?_
  obtain ⟨u1, e1, hf⟩ := bx hf
  refine r_callVi (ws' := (dO G ad d_ad dw ++ [])) (As := []) (rest := []) C hw hl.1 kX9_framesNow ml_X9_356 (c_X9_framesNow l G ad _ d_ad dw u1 e1) (CutX.take dO_f CutX.none) _ (gx_h dO_o) rfl ⟨rfl, rfl⟩ ⟨Nat.le_of_ble_eq_true rfl, Nat.le_of_ble_eq_true rfl⟩ rfl ⟨Nat.zero_le _, Nat.zero_le _⟩ rfl (Nat.le_of_ble_eq_true rfl) dX9_compacts_1 (fun H locs hw => ?_)
  refine r_istore0 C hl [(1, .int u1), (0, .ref (ad 99))] (by decide) rfl dX9_compacts_4 (fun ls hl => ?_)
  refine r_aload0 C hl 1 rfl dX9_compacts_5 ?_
  refine r_get C hw _ (gx_h dO_o) 3 fl_X9_229 rfl dX9_compacts_6 ?_
  refine r_istore0 C hl [(2, .int (gS d_ad 3)), (1, .int u1), (0, .ref (ad 99))] (by decide) rfl dX9_compacts_9 (fun ls hl => ?_)
  exact hL_10  FU d_ad u1 (gS d_ad 3) hf _ _ hw _ (lv_sub hl [2, 1, 0] rfl)
set_option maxHeartbeats 4000000 in
set_option maxRecDepth 100000 in
theorem c_X9_keepsAside (l : Launch) (G : GG) (ad : Nat → Nat) (sz : Nat) (d_ad : Pic) (dw : Int64)  (out : Pic) (hf : f_X9_keepsAside d_ad = some out) : Met l yX9_keepsAside (.code yX9_keepsAside cX9_keepsAside 2 none :: BT) ({ frames := 0, cells := 0, slots := 0, locals := 0 }) (va_Pc [.ref (ad 99)] (PreW G sz (dO G ad d_ad dw ++ []))) (Don G (va_A (dO G ad d_ad dw ++ []) sz) (dO G ad out dw ++ [])) 0 0 (va_A (dO G ad d_ad dw ++ []) sz) := by
  refine Met.into (by decide) (Nat.le_of_ble_eq_true rfl) ?_
  intro p e s m below meth c C hsz ls hl hw
  have hl : lv_has ls 2 [(0, .ref (ad 99))] := hl
  clear hsz
  generalize va_A (dO G ad d_ad dw ++ []) sz = A at hw ⊢
  have hB_2 : ∀ (k2 : Pic → Int32 → Option (Pic)) (hk2 : ∀ (d_ad : Pic) (v1 : Int32), k2 d_ad v1 = some out → ∀ (H : Heap) (locs : List Loc), Wd G A s H locs (dO G ad d_ad dw ++ []) → ∀ ls : Array Slot, lv_has ls 2 [(0, .ref (ad 99)), (1, .int v1)] → W p l e ({ frames := 0, cells := 0, slots := 0, locals := 0 }) s m [.ref (ad 99)].toArray below meth c H locs 0 0 (MQ below (Don G A (dO G ad out dw ++ [])) [.ref (ad 99)].toArray s 0 0 A) (F0 m 2 ls [])), ∀ (d_ad : Pic) (v1 : Int32), b_X9_keepsAside_2  k2 d_ad v1 = some out → ∀ (H : Heap) (locs : List Loc), Wd G A s H locs (dO G ad d_ad dw ++ []) → ∀ ls : Array Slot, lv_has ls 2 [(0, .ref (ad 99)), (1, .int v1)] → W p l e ({ frames := 0, cells := 0, slots := 0, locals := 0 }) s m [.ref (ad 99)].toArray below meth c H locs 0 0 (MQ below (Don G A (dO G ad out dw ++ [])) [.ref (ad 99)].toArray s 0 0 A) (F0 m 2 ls []) := by
    intro k2 hk2 d_ad v1 hf H locs hw ls hl
    unfold b_X9_keepsAside_2 at hf
    refine r_iload0 C hl 1 rfl dX9_keepsAside_2 ?_
    refine lv_sipush (v := 1234) C.1 C.2.1 dX9_keepsAside_3 (by decide) ?_
    refine lv_icmp_ge (tgt := 27) C.1 C.2.1 dX9_keepsAside_6 (by decide) (fun hc => ?_) (fun hc => ?_)
    · replace hf := ifp hf hc
      exact fin_v C hw (Option.some.inj hf) (fun o => (dO G ad o dw ++ [])) rfl dX9_keepsAside_27
    · replace hf := ifn hf hc
      refine r_aload0 C hl 0 rfl dX9_keepsAside_9 ?_
      refine r_get C hw _ (gx_h dO_o) 21 fl_X9_38 rfl dX9_keepsAside_10 ?_
      refine r_iload0 C hl 1 rfl dX9_keepsAside_13 ?_
      refine r_aload0 C hl 0 rfl dX9_keepsAside_14 ?_
      refine r_get C hw _ (gx_h dO_o) 20 fl_X9_35 rfl dX9_keepsAside_15 ?_
      refine r_iload0 C hl 1 rfl dX9_keepsAside_18 ?_
      obtain ⟨v1_, e1, hf⟩ := bx hf
      refine r_iald C hw _ (gx_h dO_g20) e1 dX9_keepsAside_19 ?_
      obtain ⟨d_ad2, e2, hf⟩ := bx hf
      refine r_iast C hw _ (gx_h dO_g21) e2 (dO G ad d_ad2 dw ++ []) (fun h => (sx_h dO_g21 (dO_s21 h))) dX9_keepsAside_20 (fun H locs hw => ?_)
      refine r_iinc C hl 1 (v1 + 1) [(1, .int (v1 + 1)), (0, .ref (ad 99))] rfl (iinc_e (by decide)) (by decide) rfl dX9_keepsAside_21 (fun ls hl => ?_)
      refine lv_goto (tgt := 2) C.1 C.2.1 dX9_keepsAside_24 (by decide) ?_
      exact hk2 d_ad2 (v1 + 1) hf _ _ hw _ (lv_sub hl [1, 0] rfl)
  have hL_2 : ∀ n : Nat, ∀ (d_ad : Pic) (v1 : Int32), L_X9_keepsAside_2   n d_ad v1 = some out → ∀ (H : Heap) (locs : List Loc), Wd G A s H locs (dO G ad d_ad dw ++ []) → ∀ ls : Array Slot, lv_has ls 2 [(0, .ref (ad 99)), (1, .int v1)] → W p l e ({ frames := 0, cells := 0, slots := 0, locals := 0 }) s m [.ref (ad 99)].toArray below meth c H locs 0 0 (MQ below (Don G A (dO G ad out dw ++ [])) [.ref (ad 99)].toArray s 0 0 A) (F0 m 2 ls []) := by
    intro  n
    induction n with
    | zero => intro d_ad v1 hf; cases hf
    | succ n ih => exact hB_2 _ ih
  unfold f_X9_keepsAside at hf
  refine lv_iconst (v := 0) C.1 C.2.1 dX9_keepsAside_0 (by decide) ?_
  refine r_istore0 C hl [(1, .int 0), (0, .ref (ad 99))] (by decide) rfl dX9_keepsAside_1 (fun ls hl => ?_)
  exact hL_2  FU d_ad 0 hf _ _ hw _ (lv_sub hl [1, 0] rfl)
set_option maxHeartbeats 4000000 in
set_option maxRecDepth 100000 in
theorem c_X9_bringsBack (l : Launch) (G : GG) (ad : Nat → Nat) (sz : Nat) (d_ad : Pic) (dw : Int64)  (out : Pic) (hf : f_X9_bringsBack d_ad = some out) : Met l yX9_bringsBack (.code yX9_bringsBack cX9_bringsBack 2 none :: BT) ({ frames := 0, cells := 0, slots := 0, locals := 0 }) (va_Pc [.ref (ad 99)] (PreW G sz (dO G ad d_ad dw ++ []))) (Don G (va_A (dO G ad d_ad dw ++ []) sz) (dO G ad out dw ++ [])) 0 0 (va_A (dO G ad d_ad dw ++ []) sz) := by
  refine Met.into (by decide) (Nat.le_of_ble_eq_true rfl) ?_
  intro p e s m below meth c C hsz ls hl hw
  have hl : lv_has ls 2 [(0, .ref (ad 99))] := hl
  clear hsz
  generalize va_A (dO G ad d_ad dw ++ []) sz = A at hw ⊢
  have hB_2 : ∀ (k2 : Pic → Int32 → Option (Pic)) (hk2 : ∀ (d_ad : Pic) (v1 : Int32), k2 d_ad v1 = some out → ∀ (H : Heap) (locs : List Loc), Wd G A s H locs (dO G ad d_ad dw ++ []) → ∀ ls : Array Slot, lv_has ls 2 [(0, .ref (ad 99)), (1, .int v1)] → W p l e ({ frames := 0, cells := 0, slots := 0, locals := 0 }) s m [.ref (ad 99)].toArray below meth c H locs 0 0 (MQ below (Don G A (dO G ad out dw ++ [])) [.ref (ad 99)].toArray s 0 0 A) (F0 m 2 ls [])), ∀ (d_ad : Pic) (v1 : Int32), b_X9_bringsBack_2  k2 d_ad v1 = some out → ∀ (H : Heap) (locs : List Loc), Wd G A s H locs (dO G ad d_ad dw ++ []) → ∀ ls : Array Slot, lv_has ls 2 [(0, .ref (ad 99)), (1, .int v1)] → W p l e ({ frames := 0, cells := 0, slots := 0, locals := 0 }) s m [.ref (ad 99)].toArray below meth c H locs 0 0 (MQ below (Don G A (dO G ad out dw ++ [])) [.ref (ad 99)].toArray s 0 0 A) (F0 m 2 ls []) := by
    intro k2 hk2 d_ad v1 hf H locs hw ls hl
    unfold b_X9_bringsBack_2 at hf
    refine r_iload0 C hl 1 rfl dX9_bringsBack_2 ?_
    refine lv_sipush (v := 1234) C.1 C.2.1 dX9_bringsBack_3 (by decide) ?_
    refine lv_icmp_ge (tgt := 27) C.1 C.2.1 dX9_bringsBack_6 (by decide) (fun hc => ?_) (fun hc => ?_)
    · replace hf := ifp hf hc
      exact fin_v C hw (Option.some.inj hf) (fun o => (dO G ad o dw ++ [])) rfl dX9_bringsBack_27
    · replace hf := ifn hf hc
      refine r_aload0 C hl 0 rfl dX9_bringsBack_9 ?_
      refine r_get C hw _ (gx_h dO_o) 20 fl_X9_35 rfl dX9_bringsBack_10 ?_
      refine r_iload0 C hl 1 rfl dX9_bringsBack_13 ?_
      refine r_aload0 C hl 0 rfl dX9_bringsBack_14 ?_
      refine r_get C hw _ (gx_h dO_o) 21 fl_X9_38 rfl dX9_bringsBack_15 ?_
      refine r_iload0 C hl 1 rfl dX9_bringsBack_18 ?_
      obtain ⟨v1_, e1, hf⟩ := bx hf
      refine r_iald C hw _ (gx_h dO_g21) e1 dX9_bringsBack_19 ?_
      obtain ⟨d_ad2, e2, hf⟩ := bx hf
      refine r_iast C hw _ (gx_h dO_g20) e2 (dO G ad d_ad2 dw ++ []) (fun h => (sx_h dO_g20 (dO_s20 h))) dX9_bringsBack_20 (fun H locs hw => ?_)
      refine r_iinc C hl 1 (v1 + 1) [(1, .int (v1 + 1)), (0, .ref (ad 99))] rfl (iinc_e (by decide)) (by decide) rfl dX9_bringsBack_21 (fun ls hl => ?_)
      refine lv_goto (tgt := 2) C.1 C.2.1 dX9_bringsBack_24 (by decide) ?_
      exact hk2 d_ad2 (v1 + 1) hf _ _ hw _ (lv_sub hl [1, 0] rfl)
  have hL_2 : ∀ n : Nat, ∀ (d_ad : Pic) (v1 : Int32), L_X9_bringsBack_2   n d_ad v1 = some out → ∀ (H : Heap) (locs : List Loc), Wd G A s H locs (dO G ad d_ad dw ++ []) → ∀ ls : Array Slot, lv_has ls 2 [(0, .ref (ad 99)), (1, .int v1)] → W p l e ({ frames := 0, cells := 0, slots := 0, locals := 0 }) s m [.ref (ad 99)].toArray below meth c H locs 0 0 (MQ below (Don G A (dO G ad out dw ++ [])) [.ref (ad 99)].toArray s 0 0 A) (F0 m 2 ls []) := by
    intro  n
    induction n with
    | zero => intro d_ad v1 hf; cases hf
    | succ n ih => exact hB_2 _ ih
  unfold f_X9_bringsBack at hf
  refine lv_iconst (v := 0) C.1 C.2.1 dX9_bringsBack_0 (by decide) ?_
  refine r_istore0 C hl [(1, .int 0), (0, .ref (ad 99))] (by decide) rfl dX9_bringsBack_1 (fun ls hl => ?_)
  exact hL_2  FU d_ad 0 hf _ _ hw _ (lv_sub hl [1, 0] rfl)
set_option maxHeartbeats 4000000 in
set_option maxRecDepth 100000 in
theorem c_X9_gain (l : Launch) (G : GG) (ad : Nat → Nat) (sz : Nat) (d_ad : Pic) (dw : Int64)  (out : Int32 × Pic) (hf : f_X9_gain d_ad = some out) : Met l yX9_gain (.code yX9_gain cX9_gain 2 (some .int) :: BT) ({ frames := 6, cells := 0, slots := 0, locals := 136 }) (va_Pc [.ref (ad 99)] (PreW G sz (dO G ad d_ad dw ++ []))) (Ans G out.1 (va_A (dO G ad d_ad dw ++ []) sz) (dO G ad out.2 dw ++ [])) 0 0 (va_A (dO G ad d_ad dw ++ []) sz) := by
  refine Met.into (by decide) (Nat.le_of_ble_eq_true rfl) ?_
  intro p e s m below meth c C hsz ls hl hw
  have hl : lv_has ls 2 [(0, .ref (ad 99))] := hl
  clear hsz
  generalize va_A (dO G ad d_ad dw ++ []) sz = A at hw ⊢
  unfold f_X9_gain at hf
  refine r_aload0 C hl 0 rfl dX9_gain_0 ?_
  refine lv_iconst (v := 0) C.1 C.2.1 dX9_gain_1 (by decide) ?_
  obtain ⟨d_ad1, e1, hf⟩ := bx hf
  refine r_put C hw _ (gx_h dO_o) 0 fp_X9_75 rfl rfl (Nat.le_of_ble_eq_true rfl) (dO G ad d_ad1 dw ++ []) (sx_h dO_o (dO_p0 e1)) dX9_gain_2 (fun H locs hw => ?_)
  refine r_aload0 C hl 0 rfl dX9_gain_5 ?_
  refine r_get C hw _ (gx_h dO_o) 19 fl_X9_225 rfl dX9_gain_6 ?_
  refine lv_if_ne (tgt := 18) C.1 C.2.1 dX9_gain_9 (by decide) (fun hc => ?_) (fun hc => ?_)
  · replace hf := ifn hf hc
    refine r_aload0 C hl 0 rfl dX9_gain_18 ?_
    obtain ⟨u2, e2, hf⟩ := bx hf
    refine r_callVv (ws' := (dO G ad u2 dw ++ [])) (As := []) (rest := []) C hw hl.1 kX9_keepsAside ml_X9_395 (c_X9_keepsAside l G ad _ d_ad1 dw u2 e2) (CutX.take dO_f CutX.none) _ (gx_h dO_o) rfl ⟨rfl, rfl⟩ ⟨Nat.le_of_ble_eq_true rfl, Nat.le_of_ble_eq_true rfl⟩ rfl ⟨Nat.zero_le _, Nat.zero_le _⟩ rfl (Nat.le_of_ble_eq_true rfl) dX9_gain_19 (fun H locs hw => ?_)
    refine r_aload0 C hl 0 rfl dX9_gain_22 ?_
    obtain ⟨u3, e3, hf⟩ := bx hf
    refine r_callVi (ws' := (dO G ad u3.2 dw ++ [])) (As := []) (rest := []) C hw hl.1 kX9_compacts ml_X9_398 (c_X9_compacts l G ad _ u2 dw u3 e3) (CutX.take dO_f CutX.none) _ (gx_h dO_o) rfl ⟨rfl, rfl⟩ ⟨Nat.le_of_ble_eq_true rfl, Nat.le_of_ble_eq_true rfl⟩ rfl ⟨Nat.zero_le _, Nat.zero_le _⟩ rfl (Nat.le_of_ble_eq_true rfl) dX9_gain_23 (fun H locs hw => ?_)
    refine r_istore0 C hl [(1, .int u3.1), (0, .ref (ad 99))] (by decide) rfl dX9_gain_26 (fun ls hl => ?_)
    refine r_aload0 C hl 1 rfl dX9_gain_27 ?_
    obtain ⟨u4, e4, hf⟩ := bx hf
    refine r_callVv (ws' := (dO G ad u4 dw ++ [])) (As := []) (rest := []) C hw hl.1 kX9_bringsBack ml_X9_401 (c_X9_bringsBack l G ad _ u3.2 dw u4 e4) (CutX.take dO_f CutX.none) _ (gx_h dO_o) rfl ⟨rfl, rfl⟩ ⟨Nat.le_of_ble_eq_true rfl, Nat.le_of_ble_eq_true rfl⟩ rfl ⟨Nat.zero_le _, Nat.zero_le _⟩ rfl (Nat.le_of_ble_eq_true rfl) dX9_gain_28 (fun H locs hw => ?_)
    refine r_aload0 C hl 1 rfl dX9_gain_31 ?_
    refine r_iload0 C hl 0 rfl dX9_gain_32 ?_
    obtain ⟨u5, e5, hf⟩ := bx hf
    refine r_callVi (ws' := (dO G ad u5.2 dw ++ [])) (As := [.int u3.1]) (rest := []) C hw hl.1 kX9_good ml_X9_222 (c_X9_good l G ad _ u4 dw u3.1 u5 e5) (CutX.take dO_f CutX.none) _ (gx_h dO_o) rfl ⟨rfl, rfl⟩ ⟨Nat.le_of_ble_eq_true rfl, Nat.le_of_ble_eq_true rfl⟩ rfl ⟨Nat.zero_le _, Nat.zero_le _⟩ rfl (Nat.le_of_ble_eq_true rfl) dX9_gain_33 (fun H locs hw => ?_)
    exact fin_i C hw (Option.some.inj hf) (fun o => o.1) (fun o => (dO G ad o.2 dw ++ [])) rfl rfl dX9_gain_36
  · replace hf := ifp hf hc
    refine r_aload0 C hl 0 rfl dX9_gain_12 ?_
    refine lv_iconst (v := 1) C.1 C.2.1 dX9_gain_13 (by decide) ?_
    obtain ⟨u6, e6, hf⟩ := bx hf
    refine r_callVi (ws' := (dO G ad u6.2 dw ++ [])) (As := [.int 1]) (rest := []) C hw hl.1 kX9_refused ml_X9_210 (c_X9_refused l G ad _ d_ad1 dw 1 u6 e6) (CutX.take dO_f CutX.none) _ (gx_h dO_o) rfl ⟨rfl, rfl⟩ ⟨Nat.le_of_ble_eq_true rfl, Nat.le_of_ble_eq_true rfl⟩ rfl ⟨Nat.zero_le _, Nat.zero_le _⟩ rfl (Nat.le_of_ble_eq_true rfl) dX9_gain_14 (fun H locs hw => ?_)
    exact fin_i C hw (Option.some.inj hf) (fun o => o.1) (fun o => (dO G ad o.2 dw ++ [])) rfl rfl dX9_gain_17
set_option maxHeartbeats 4000000 in
set_option maxRecDepth 100000 in
theorem c_X9_goes (l : Launch) (G : GG) (ad : Nat → Nat) (sz : Nat) (d_ad : Pic) (dw : Int64) (x1 : Int32) (out : Int32 × Pic) (hf : f_X9_goes d_ad x1 = some out) : Met l yX9_goes (.code yX9_goes cX9_goes 3 (some .int) :: BT) ({ frames := 4, cells := 0, slots := 0, locals := 87 }) (va_Pc [.ref (ad 99), .int x1] (PreW G sz (dO G ad d_ad dw ++ []))) (Ans G out.1 (va_A (dO G ad d_ad dw ++ []) sz) (dO G ad out.2 dw ++ [])) 0 0 (va_A (dO G ad d_ad dw ++ []) sz) := by
  refine Met.into (by decide) (Nat.le_of_ble_eq_true rfl) ?_
  intro p e s m below meth c C hsz ls hl hw
  have hl : lv_has ls 3 [(0, .ref (ad 99)), (1, .int x1)] := hl
  clear hsz
  generalize va_A (dO G ad d_ad dw ++ []) sz = A at hw ⊢
  have hB_2 : ∀ (k2 : Pic → Int32 → Option (Int32 × Pic)) (hk2 : ∀ (d_ad : Pic) (v2 : Int32), k2 d_ad v2 = some out → ∀ (H : Heap) (locs : List Loc), Wd G A s H locs (dO G ad d_ad dw ++ []) → ∀ ls : Array Slot, lv_has ls 3 [(0, .ref (ad 99)), (1, .int x1), (2, .int v2)] → W p l e ({ frames := 4, cells := 0, slots := 0, locals := 87 }) s m [.ref (ad 99), .int x1].toArray below meth c H locs 0 0 (MQ below (Ans G out.1 A (dO G ad out.2 dw ++ [])) [.ref (ad 99), .int x1].toArray s 0 0 A) (F0 m 2 ls [])), ∀ (d_ad : Pic) (v2 : Int32), b_X9_goes_2 x1 k2 d_ad v2 = some out → ∀ (H : Heap) (locs : List Loc), Wd G A s H locs (dO G ad d_ad dw ++ []) → ∀ ls : Array Slot, lv_has ls 3 [(0, .ref (ad 99)), (1, .int x1), (2, .int v2)] → W p l e ({ frames := 4, cells := 0, slots := 0, locals := 87 }) s m [.ref (ad 99), .int x1].toArray below meth c H locs 0 0 (MQ below (Ans G out.1 A (dO G ad out.2 dw ++ [])) [.ref (ad 99), .int x1].toArray s 0 0 A) (F0 m 2 ls []) := by
    intro k2 hk2 d_ad v2 hf H locs hw ls hl
    unfold b_X9_goes_2 at hf
    refine r_aload0 C hl 0 rfl dX9_goes_2 ?_
    obtain ⟨u1, e1, hf⟩ := bx hf
    refine r_callVi (ws' := (dO G ad d_ad dw ++ [])) (As := []) (rest := []) C hw hl.1 kX9_framesNow ml_X9_356 (c_X9_framesNow l G ad _ d_ad dw u1 e1) (CutX.take dO_f CutX.none) _ (gx_h dO_o) rfl ⟨rfl, rfl⟩ ⟨Nat.le_of_ble_eq_true rfl, Nat.le_of_ble_eq_true rfl⟩ rfl ⟨Nat.zero_le _, Nat.zero_le _⟩ rfl (Nat.le_of_ble_eq_true rfl) dX9_goes_3 (fun H locs hw => ?_)
    refine r_iload0 C hl 1 rfl dX9_goes_6 ?_
    refine lv_icmp_le (tgt := 29) C.1 C.2.1 dX9_goes_7 (by decide) (fun hc => ?_) (fun hc => ?_)
    · replace hf := ifp hf hc
      refine r_iload0 C hl 2 rfl dX9_goes_29 ?_
      exact fin_i C hw (Option.some.inj hf) (fun o => o.1) (fun o => (dO G ad o.2 dw ++ [])) rfl rfl dX9_goes_30
    · replace hf := ifn hf hc
      refine r_aload0 C hl 0 rfl dX9_goes_10 ?_
      obtain ⟨u2, e2, hf⟩ := bx hf
      refine r_callVi (ws' := (dO G ad d_ad dw ++ [])) (As := []) (rest := []) C hw hl.1 kX9_coldestFree ml_X9_337 (c_X9_coldestFree l G ad _ d_ad dw u2 e2) (CutX.take dO_f CutX.none) _ (gx_h dO_o) rfl ⟨rfl, rfl⟩ ⟨Nat.le_of_ble_eq_true rfl, Nat.le_of_ble_eq_true rfl⟩ rfl ⟨Nat.zero_le _, Nat.zero_le _⟩ rfl (Nat.le_of_ble_eq_true rfl) dX9_goes_11 (fun H locs hw => ?_)
      refine lv_iconst (v := (-1)) C.1 C.2.1 dX9_goes_14 (by decide) ?_
      refine lv_icmp_eq (tgt := 29) C.1 C.2.1 dX9_goes_15 (by decide) (fun hc => ?_) (fun hc => ?_)
      · replace hf := ifp hf hc
        refine r_iload0 C hl 2 rfl dX9_goes_29 ?_
        exact fin_i C hw (Option.some.inj hf) (fun o => o.1) (fun o => (dO G ad o.2 dw ++ [])) rfl rfl dX9_goes_30
      · replace hf := ifn hf hc
        refine r_aload0 C hl 0 rfl dX9_goes_18 ?_
        obtain ⟨u3, e3, hf⟩ := bx hf
        refine r_callVi (ws' := (dO G ad u3.2 dw ++ [])) (As := []) (rest := []) C hw hl.1 kX9_writesColdest ml_X9_362 (c_X9_writesColdest l G ad _ d_ad dw u3 e3) (CutX.take dO_f CutX.none) _ (gx_h dO_o) rfl ⟨rfl, rfl⟩ ⟨Nat.le_of_ble_eq_true rfl, Nat.le_of_ble_eq_true rfl⟩ rfl ⟨Nat.zero_le _, Nat.zero_le _⟩ rfl (Nat.le_of_ble_eq_true rfl) dX9_goes_19 (fun H locs hw => ?_)
        refine lv_pop C.1 C.2.1 dX9_goes_22 rfl ?_
        refine r_iinc C hl 2 (v2 + 1) [(2, .int (v2 + 1)), (0, .ref (ad 99)), (1, .int x1)] rfl (iinc_e (by decide)) (by decide) rfl dX9_goes_23 (fun ls hl => ?_)
        refine lv_goto (tgt := 2) C.1 C.2.1 dX9_goes_26 (by decide) ?_
        exact hk2 u3.2 (v2 + 1) hf _ _ hw _ (lv_sub hl [1, 2, 0] rfl)
  have hL_2 : ∀ n : Nat, ∀ (d_ad : Pic) (v2 : Int32), L_X9_goes_2 x1  n d_ad v2 = some out → ∀ (H : Heap) (locs : List Loc), Wd G A s H locs (dO G ad d_ad dw ++ []) → ∀ ls : Array Slot, lv_has ls 3 [(0, .ref (ad 99)), (1, .int x1), (2, .int v2)] → W p l e ({ frames := 4, cells := 0, slots := 0, locals := 87 }) s m [.ref (ad 99), .int x1].toArray below meth c H locs 0 0 (MQ below (Ans G out.1 A (dO G ad out.2 dw ++ [])) [.ref (ad 99), .int x1].toArray s 0 0 A) (F0 m 2 ls []) := by
    intro  n
    induction n with
    | zero => intro d_ad v2 hf; cases hf
    | succ n ih => exact hB_2 _ ih
  unfold f_X9_goes at hf
  refine lv_iconst (v := 0) C.1 C.2.1 dX9_goes_0 (by decide) ?_
  refine r_istore0 C hl [(2, .int 0), (0, .ref (ad 99)), (1, .int x1)] (by decide) rfl dX9_goes_1 (fun ls hl => ?_)
  exact hL_2  FU d_ad 0 hf _ _ hw _ (lv_sub hl [1, 2, 0] rfl)
set_option maxHeartbeats 4000000 in
set_option maxRecDepth 100000 in
theorem c_X9_would (l : Launch) (G : GG) (ad : Nat → Nat) (sz : Nat) (d_ad : Pic) (dw : Int64) (x1 x2 : Int32) (out : Int32 × Pic) (hf : f_X9_would d_ad x1 x2 = some out) : Met l yX9_would (.code yX9_would cX9_would 4 (some .int) :: BT) ({ frames := 6, cells := 0, slots := 0, locals := 136 }) (va_Pc [.ref (ad 99), .int x1, .int x2] (PreW G sz (dO G ad d_ad dw ++ []))) (Ans G out.1 (va_A (dO G ad d_ad dw ++ []) sz) (dO G ad out.2 dw ++ [])) 0 0 (va_A (dO G ad d_ad dw ++ []) sz) := by
  refine Met.into (by decide) (Nat.le_of_ble_eq_true rfl) ?_
  intro p e s m below meth c C hsz ls hl hw
  have hl : lv_has ls 4 [(0, .ref (ad 99)), (1, .int x1), (2, .int x2)] := hl
  clear hsz
  generalize va_A (dO G ad d_ad dw ++ []) sz = A at hw ⊢
  have hB_47 : ∀ (d_ad : Pic), b_X9_would_47 x1 x2  d_ad = some out → ∀ (H : Heap) (locs : List Loc), Wd G A s H locs (dO G ad d_ad dw ++ []) → ∀ ls : Array Slot, lv_has ls 4 [(0, .ref (ad 99)), (1, .int x1)] → W p l e ({ frames := 6, cells := 0, slots := 0, locals := 136 }) s m [.ref (ad 99), .int x1, .int x2].toArray below meth c H locs 0 0 (MQ below (Ans G out.1 A (dO G ad out.2 dw ++ [])) [.ref (ad 99), .int x1, .int x2].toArray s 0 0 A) (F0 m 47 ls []) := by
    intro d_ad hf H locs hw ls hl
    unfold b_X9_would_47 at hf
    refine r_aload0 C hl 0 rfl dX9_would_47 ?_
    refine r_iload0 C hl 1 rfl dX9_would_48 ?_
    obtain ⟨u4, e4, hf⟩ := bx hf
    refine r_callVi (ws' := (dO G ad u4.2 dw ++ [])) (As := [.int x1]) (rest := []) C hw hl.1 kX9_goes ml_X9_404 (c_X9_goes l G ad _ d_ad dw x1 u4 e4) (CutX.take dO_f CutX.none) _ (gx_h dO_o) rfl ⟨rfl, rfl⟩ ⟨Nat.le_of_ble_eq_true rfl, Nat.le_of_ble_eq_true rfl⟩ rfl ⟨Nat.zero_le _, Nat.zero_le _⟩ rfl (Nat.le_of_ble_eq_true rfl) dX9_would_49 (fun H locs hw => ?_)
    refine r_istore0 C hl [(3, .int u4.1), (0, .ref (ad 99)), (1, .int x1)] (by decide) rfl dX9_would_52 (fun ls hl => ?_)
    refine r_aload0 C hl 1 rfl dX9_would_53 ?_
    obtain ⟨u5, e5, hf⟩ := bx hf
    refine r_callVv (ws' := (dO G ad u5 dw ++ [])) (As := []) (rest := []) C hw hl.1 kX9_bringsBack ml_X9_401 (c_X9_bringsBack l G ad _ u4.2 dw u5 e5) (CutX.take dO_f CutX.none) _ (gx_h dO_o) rfl ⟨rfl, rfl⟩ ⟨Nat.le_of_ble_eq_true rfl, Nat.le_of_ble_eq_true rfl⟩ rfl ⟨Nat.zero_le _, Nat.zero_le _⟩ rfl (Nat.le_of_ble_eq_true rfl) dX9_would_54 (fun H locs hw => ?_)
    refine r_aload0 C hl 1 rfl dX9_would_57 ?_
    refine r_iload0 C hl 0 rfl dX9_would_58 ?_
    obtain ⟨u6, e6, hf⟩ := bx hf
    refine r_callVi (ws' := (dO G ad u6.2 dw ++ [])) (As := [.int u4.1]) (rest := []) C hw hl.1 kX9_good ml_X9_222 (c_X9_good l G ad _ u5 dw u4.1 u6 e6) (CutX.take dO_f CutX.none) _ (gx_h dO_o) rfl ⟨rfl, rfl⟩ ⟨Nat.le_of_ble_eq_true rfl, Nat.le_of_ble_eq_true rfl⟩ rfl ⟨Nat.zero_le _, Nat.zero_le _⟩ rfl (Nat.le_of_ble_eq_true rfl) dX9_would_59 (fun H locs hw => ?_)
    exact fin_i C hw (Option.some.inj hf) (fun o => o.1) (fun o => (dO G ad o.2 dw ++ [])) rfl rfl dX9_would_62
  unfold f_X9_would at hf
  refine r_aload0 C hl 0 rfl dX9_would_0 ?_
  refine lv_iconst (v := 0) C.1 C.2.1 dX9_would_1 (by decide) ?_
  obtain ⟨d_ad1, e1, hf⟩ := bx hf
  refine r_put C hw _ (gx_h dO_o) 0 fp_X9_75 rfl rfl (Nat.le_of_ble_eq_true rfl) (dO G ad d_ad1 dw ++ []) (sx_h dO_o (dO_p0 e1)) dX9_would_2 (fun H locs hw => ?_)
  refine r_aload0 C hl 0 rfl dX9_would_5 ?_
  refine r_get C hw _ (gx_h dO_o) 19 fl_X9_225 rfl dX9_would_6 ?_
  refine lv_if_ne (tgt := 18) C.1 C.2.1 dX9_would_9 (by decide) (fun hc => ?_) (fun hc => ?_)
  · replace hf := ifn hf hc
    refine r_iload0 C hl 1 rfl dX9_would_18 ?_
    refine lv_iconst (v := 1) C.1 C.2.1 dX9_would_19 (by decide) ?_
    refine lv_bipush (v := 24) C.1 C.2.1 dX9_would_20 (by decide) ?_
    obtain ⟨u2, e2, hf⟩ := bx hf
    refine r_callSi (ws' := (dO G ad d_ad1 dw ++ [])) (As := [.int x1, .int 1, .int 24]) (rest := []) C hw hl.1 kX9_in ml_X9_100 (c_X9_in l G _ x1 1 24 u2 e2) CutX.none ⟨rfl, rfl⟩ ⟨Nat.le_of_ble_eq_true rfl, Nat.le_of_ble_eq_true rfl⟩ rfl ⟨Nat.zero_le _, Nat.zero_le _⟩ rfl (Nat.le_of_ble_eq_true rfl) dX9_would_22 (fun H locs hw => ?_)
    refine lv_if_ne (tgt := 34) C.1 C.2.1 dX9_would_25 (by decide) (fun hc => ?_) (fun hc => ?_)
    · replace hf := ifn hf hc
      refine r_aload0 C hl 0 rfl dX9_would_34 ?_
      obtain ⟨u3, e3, hf⟩ := bx hf
      refine r_callVv (ws' := (dO G ad u3 dw ++ [])) (As := []) (rest := []) C hw hl.1 kX9_keepsAside ml_X9_395 (c_X9_keepsAside l G ad _ d_ad1 dw u3 e3) (CutX.take dO_f CutX.none) _ (gx_h dO_o) rfl ⟨rfl, rfl⟩ ⟨Nat.le_of_ble_eq_true rfl, Nat.le_of_ble_eq_true rfl⟩ rfl ⟨Nat.zero_le _, Nat.zero_le _⟩ rfl (Nat.le_of_ble_eq_true rfl) dX9_would_35 (fun H locs hw => ?_)
      refine r_iload0 C hl 2 rfl dX9_would_38 ?_
      refine lv_if_eq (tgt := 47) C.1 C.2.1 dX9_would_39 (by decide) (fun hc => ?_) (fun hc => ?_)
      · replace hf := ifp hf hc
        exact hB_47  u3 hf _ _ hw _ (lv_sub hl [0, 1] rfl)
      · replace hf := ifn hf hc
        refine r_aload0 C hl 0 rfl dX9_would_42 ?_
        obtain ⟨u7, e7, hf⟩ := bx hf
        refine r_callVi (ws' := (dO G ad u7.2 dw ++ [])) (As := []) (rest := []) C hw hl.1 kX9_compacts ml_X9_398 (c_X9_compacts l G ad _ u3 dw u7 e7) (CutX.take dO_f CutX.none) _ (gx_h dO_o) rfl ⟨rfl, rfl⟩ ⟨Nat.le_of_ble_eq_true rfl, Nat.le_of_ble_eq_true rfl⟩ rfl ⟨Nat.zero_le _, Nat.zero_le _⟩ rfl (Nat.le_of_ble_eq_true rfl) dX9_would_43 (fun H locs hw => ?_)
        refine lv_pop C.1 C.2.1 dX9_would_46 rfl ?_
        exact hB_47  u7.2 hf _ _ hw _ (lv_sub hl [0, 1] rfl)
    · replace hf := ifp hf hc
      refine r_aload0 C hl 0 rfl dX9_would_28 ?_
      refine lv_iconst (v := 2) C.1 C.2.1 dX9_would_29 (by decide) ?_
      obtain ⟨u8, e8, hf⟩ := bx hf
      refine r_callVi (ws' := (dO G ad u8.2 dw ++ [])) (As := [.int 2]) (rest := []) C hw hl.1 kX9_refused ml_X9_210 (c_X9_refused l G ad _ d_ad1 dw 2 u8 e8) (CutX.take dO_f CutX.none) _ (gx_h dO_o) rfl ⟨rfl, rfl⟩ ⟨Nat.le_of_ble_eq_true rfl, Nat.le_of_ble_eq_true rfl⟩ rfl ⟨Nat.zero_le _, Nat.zero_le _⟩ rfl (Nat.le_of_ble_eq_true rfl) dX9_would_30 (fun H locs hw => ?_)
      exact fin_i C hw (Option.some.inj hf) (fun o => o.1) (fun o => (dO G ad o.2 dw ++ [])) rfl rfl dX9_would_33
  · replace hf := ifp hf hc
    refine r_aload0 C hl 0 rfl dX9_would_12 ?_
    refine lv_iconst (v := 1) C.1 C.2.1 dX9_would_13 (by decide) ?_
    obtain ⟨u9, e9, hf⟩ := bx hf
    refine r_callVi (ws' := (dO G ad u9.2 dw ++ [])) (As := [.int 1]) (rest := []) C hw hl.1 kX9_refused ml_X9_210 (c_X9_refused l G ad _ d_ad1 dw 1 u9 e9) (CutX.take dO_f CutX.none) _ (gx_h dO_o) rfl ⟨rfl, rfl⟩ ⟨Nat.le_of_ble_eq_true rfl, Nat.le_of_ble_eq_true rfl⟩ rfl ⟨Nat.zero_le _, Nat.zero_le _⟩ rfl (Nat.le_of_ble_eq_true rfl) dX9_would_14 (fun H locs hw => ?_)
    exact fin_i C hw (Option.some.inj hf) (fun o => o.1) (fun o => (dO G ad o.2 dw ++ [])) rfl rfl dX9_would_17
set_option maxHeartbeats 4000000 in
set_option maxRecDepth 100000 in
theorem c_X9_holds (l : Launch) (G : GG) (ad : Nat → Nat) (sz : Nat) (d_ad : Pic) (dw : Int64) (x1 : Int32) (out : Int32 × Pic) (hf : f_X9_holds d_ad x1 = some out) : Met l yX9_holds (.code yX9_holds cX9_holds 4 (some .int) :: BT) ({ frames := 6, cells := 0, slots := 0, locals := 136 }) (va_Pc [.ref (ad 99), .int x1] (PreW G sz (dO G ad d_ad dw ++ []))) (Ans G out.1 (va_A (dO G ad d_ad dw ++ []) sz) (dO G ad out.2 dw ++ [])) 0 0 (va_A (dO G ad d_ad dw ++ []) sz) := by
  refine Met.into (by decide) (Nat.le_of_ble_eq_true rfl) ?_
  intro p e s m below meth c C hsz ls hl hw
  have hl : lv_has ls 4 [(0, .ref (ad 99)), (1, .int x1)] := hl
  clear hsz
  generalize va_A (dO G ad d_ad dw ++ []) sz = A at hw ⊢
  have hB_68 : ∀ (d_ad : Pic) (t0 : Int32), b_X9_holds_68 x1  d_ad t0 = some out → ∀ (H : Heap) (locs : List Loc), Wd G A s H locs (dO G ad d_ad dw ++ []) → ∀ ls : Array Slot, lv_has ls 4 [] → W p l e ({ frames := 6, cells := 0, slots := 0, locals := 136 }) s m [.ref (ad 99), .int x1].toArray below meth c H locs 0 0 (MQ below (Ans G out.1 A (dO G ad out.2 dw ++ [])) [.ref (ad 99), .int x1].toArray s 0 0 A) (F0 m 68 ls [.int t0, .ref (ad 99)]) := by
    intro d_ad t0 hf H locs hw ls hl
    unfold b_X9_holds_68 at hf
    obtain ⟨u6, e6, hf⟩ := bx hf
    refine r_callVi (ws' := (dO G ad u6.2 dw ++ [])) (As := [.int t0]) (rest := []) C hw hl.1 kX9_good ml_X9_222 (c_X9_good l G ad _ d_ad dw t0 u6 e6) (CutX.take dO_f CutX.none) _ (gx_h dO_o) rfl ⟨rfl, rfl⟩ ⟨Nat.le_of_ble_eq_true rfl, Nat.le_of_ble_eq_true rfl⟩ rfl ⟨Nat.zero_le _, Nat.zero_le _⟩ rfl (Nat.le_of_ble_eq_true rfl) dX9_holds_68 (fun H locs hw => ?_)
    exact fin_i C hw (Option.some.inj hf) (fun o => o.1) (fun o => (dO G ad o.2 dw ++ [])) rfl rfl dX9_holds_71
  have hB_63 : ∀ (d_ad : Pic), b_X9_holds_63 x1  d_ad = some out → ∀ (H : Heap) (locs : List Loc), Wd G A s H locs (dO G ad d_ad dw ++ []) → ∀ ls : Array Slot, lv_has ls 4 [] → W p l e ({ frames := 6, cells := 0, slots := 0, locals := 136 }) s m [.ref (ad 99), .int x1].toArray below meth c H locs 0 0 (MQ below (Ans G out.1 A (dO G ad out.2 dw ++ [])) [.ref (ad 99), .int x1].toArray s 0 0 A) (F0 m 63 ls [.ref (ad 99)]) := by
    intro d_ad hf H locs hw ls hl
    unfold b_X9_holds_63 at hf
    refine lv_iconst (v := 1) C.1 C.2.1 dX9_holds_63 (by decide) ?_
    refine lv_goto (tgt := 68) C.1 C.2.1 dX9_holds_64 (by decide) ?_
    exact hB_68  d_ad 1 hf _ _ hw _ (lv_sub hl [] rfl)
  have hB_49 : ∀ (d_ad : Pic) (v2 : Int32) (t0 : Int32), b_X9_holds_49 x1  d_ad v2 t0 = some out → ∀ (H : Heap) (locs : List Loc), Wd G A s H locs (dO G ad d_ad dw ++ []) → ∀ ls : Array Slot, lv_has ls 4 [(0, .ref (ad 99)), (2, .int v2)] → W p l e ({ frames := 6, cells := 0, slots := 0, locals := 136 }) s m [.ref (ad 99), .int x1].toArray below meth c H locs 0 0 (MQ below (Ans G out.1 A (dO G ad out.2 dw ++ [])) [.ref (ad 99), .int x1].toArray s 0 0 A) (F0 m 49 ls [.int t0]) := by
    intro d_ad v2 t0 hf H locs hw ls hl
    unfold b_X9_holds_49 at hf
    refine r_istore0 C hl [(3, .int t0), (0, .ref (ad 99)), (2, .int v2)] (by decide) rfl dX9_holds_49 (fun ls hl => ?_)
    refine r_aload0 C hl 1 rfl dX9_holds_50 ?_
    obtain ⟨u5, e5, hf⟩ := bx hf
    refine r_callVv (ws' := (dO G ad u5 dw ++ [])) (As := []) (rest := []) C hw hl.1 kX9_bringsBack ml_X9_401 (c_X9_bringsBack l G ad _ d_ad dw u5 e5) (CutX.take dO_f CutX.none) _ (gx_h dO_o) rfl ⟨rfl, rfl⟩ ⟨Nat.le_of_ble_eq_true rfl, Nat.le_of_ble_eq_true rfl⟩ rfl ⟨Nat.zero_le _, Nat.zero_le _⟩ rfl (Nat.le_of_ble_eq_true rfl) dX9_holds_51 (fun H locs hw => ?_)
    refine r_aload0 C hl 1 rfl dX9_holds_54 ?_
    refine r_iload0 C hl 2 rfl dX9_holds_55 ?_
    refine lv_if_eq (tgt := 63) C.1 C.2.1 dX9_holds_56 (by decide) (fun hc => ?_) (fun hc => ?_)
    · replace hf := ifp hf hc
      exact hB_63  u5 hf _ _ hw _ (lv_sub hl [] rfl)
    · replace hf := ifn hf hc
      refine r_iload0 C hl 0 rfl dX9_holds_59 ?_
      refine lv_if_eq (tgt := 67) C.1 C.2.1 dX9_holds_60 (by decide) (fun hc => ?_) (fun hc => ?_)
      · replace hf := ifp hf hc
        refine r_iload0 C hl 2 rfl dX9_holds_67 ?_
        exact hB_68  u5 v2 hf _ _ hw _ (lv_sub hl [] rfl)
      · replace hf := ifn hf hc
        exact hB_63  u5 hf _ _ hw _ (lv_sub hl [] rfl)
  have hB_31 : ∀ (d_ad : Pic), b_X9_holds_31 x1  d_ad = some out → ∀ (H : Heap) (locs : List Loc), Wd G A s H locs (dO G ad d_ad dw ++ []) → ∀ ls : Array Slot, lv_has ls 4 [(0, .ref (ad 99))] → W p l e ({ frames := 6, cells := 0, slots := 0, locals := 136 }) s m [.ref (ad 99), .int x1].toArray below meth c H locs 0 0 (MQ below (Ans G out.1 A (dO G ad out.2 dw ++ [])) [.ref (ad 99), .int x1].toArray s 0 0 A) (F0 m 31 ls []) := by
    intro d_ad hf H locs hw ls hl
    unfold b_X9_holds_31 at hf
    refine r_aload0 C hl 0 rfl dX9_holds_31 ?_
    obtain ⟨u3, e3, hf⟩ := bx hf
    refine r_callVi (ws' := (dO G ad d_ad dw ++ [])) (As := []) (rest := []) C hw hl.1 kX9_framesNow ml_X9_356 (c_X9_framesNow l G ad _ d_ad dw u3 e3) (CutX.take dO_f CutX.none) _ (gx_h dO_o) rfl ⟨rfl, rfl⟩ ⟨Nat.le_of_ble_eq_true rfl, Nat.le_of_ble_eq_true rfl⟩ rfl ⟨Nat.zero_le _, Nat.zero_le _⟩ rfl (Nat.le_of_ble_eq_true rfl) dX9_holds_32 (fun H locs hw => ?_)
    refine r_istore0 C hl [(2, .int u3), (0, .ref (ad 99))] (by decide) rfl dX9_holds_35 (fun ls hl => ?_)
    refine r_aload0 C hl 1 rfl dX9_holds_36 ?_
    obtain ⟨u4, e4, hf⟩ := bx hf
    refine r_callVi (ws' := (dO G ad d_ad dw ++ [])) (As := []) (rest := []) C hw hl.1 kX9_coldestFree ml_X9_337 (c_X9_coldestFree l G ad _ d_ad dw u4 e4) (CutX.take dO_f CutX.none) _ (gx_h dO_o) rfl ⟨rfl, rfl⟩ ⟨Nat.le_of_ble_eq_true rfl, Nat.le_of_ble_eq_true rfl⟩ rfl ⟨Nat.zero_le _, Nat.zero_le _⟩ rfl (Nat.le_of_ble_eq_true rfl) dX9_holds_37 (fun H locs hw => ?_)
    refine lv_iconst (v := (-1)) C.1 C.2.1 dX9_holds_40 (by decide) ?_
    refine lv_icmp_ne (tgt := 48) C.1 C.2.1 dX9_holds_41 (by decide) (fun hc => ?_) (fun hc => ?_)
    · replace hf := ifn hf hc
      refine lv_iconst (v := 0) C.1 C.2.1 dX9_holds_48 (by decide) ?_
      exact hB_49  d_ad u3 0 hf _ _ hw _ (lv_sub hl [1, 0] rfl)
    · replace hf := ifp hf hc
      refine lv_iconst (v := 1) C.1 C.2.1 dX9_holds_44 (by decide) ?_
      refine lv_goto (tgt := 49) C.1 C.2.1 dX9_holds_45 (by decide) ?_
      exact hB_49  d_ad u3 1 hf _ _ hw _ (lv_sub hl [1, 0] rfl)
  unfold f_X9_holds at hf
  refine r_aload0 C hl 0 rfl dX9_holds_0 ?_
  refine lv_iconst (v := 0) C.1 C.2.1 dX9_holds_1 (by decide) ?_
  obtain ⟨d_ad1, e1, hf⟩ := bx hf
  refine r_put C hw _ (gx_h dO_o) 0 fp_X9_75 rfl rfl (Nat.le_of_ble_eq_true rfl) (dO G ad d_ad1 dw ++ []) (sx_h dO_o (dO_p0 e1)) dX9_holds_2 (fun H locs hw => ?_)
  refine r_aload0 C hl 0 rfl dX9_holds_5 ?_
  refine r_get C hw _ (gx_h dO_o) 19 fl_X9_225 rfl dX9_holds_6 ?_
  refine lv_if_ne (tgt := 18) C.1 C.2.1 dX9_holds_9 (by decide) (fun hc => ?_) (fun hc => ?_)
  · replace hf := ifn hf hc
    refine r_aload0 C hl 0 rfl dX9_holds_18 ?_
    obtain ⟨u2, e2, hf⟩ := bx hf
    refine r_callVv (ws' := (dO G ad u2 dw ++ [])) (As := []) (rest := []) C hw hl.1 kX9_keepsAside ml_X9_395 (c_X9_keepsAside l G ad _ d_ad1 dw u2 e2) (CutX.take dO_f CutX.none) _ (gx_h dO_o) rfl ⟨rfl, rfl⟩ ⟨Nat.le_of_ble_eq_true rfl, Nat.le_of_ble_eq_true rfl⟩ rfl ⟨Nat.zero_le _, Nat.zero_le _⟩ rfl (Nat.le_of_ble_eq_true rfl) dX9_holds_19 (fun H locs hw => ?_)
    refine r_iload0 C hl 1 rfl dX9_holds_22 ?_
    refine lv_if_eq (tgt := 31) C.1 C.2.1 dX9_holds_23 (by decide) (fun hc => ?_) (fun hc => ?_)
    · replace hf := ifp hf hc
      exact hB_31  u2 hf _ _ hw _ (lv_sub hl [0] rfl)
    · replace hf := ifn hf hc
      refine r_aload0 C hl 0 rfl dX9_holds_26 ?_
      obtain ⟨u7, e7, hf⟩ := bx hf
      refine r_callVi (ws' := (dO G ad u7.2 dw ++ [])) (As := []) (rest := []) C hw hl.1 kX9_compacts ml_X9_398 (c_X9_compacts l G ad _ u2 dw u7 e7) (CutX.take dO_f CutX.none) _ (gx_h dO_o) rfl ⟨rfl, rfl⟩ ⟨Nat.le_of_ble_eq_true rfl, Nat.le_of_ble_eq_true rfl⟩ rfl ⟨Nat.zero_le _, Nat.zero_le _⟩ rfl (Nat.le_of_ble_eq_true rfl) dX9_holds_27 (fun H locs hw => ?_)
      refine lv_pop C.1 C.2.1 dX9_holds_30 rfl ?_
      exact hB_31  u7.2 hf _ _ hw _ (lv_sub hl [0] rfl)
  · replace hf := ifp hf hc
    refine r_aload0 C hl 0 rfl dX9_holds_12 ?_
    refine lv_iconst (v := 1) C.1 C.2.1 dX9_holds_13 (by decide) ?_
    obtain ⟨u8, e8, hf⟩ := bx hf
    refine r_callVi (ws' := (dO G ad u8.2 dw ++ [])) (As := [.int 1]) (rest := []) C hw hl.1 kX9_refused ml_X9_210 (c_X9_refused l G ad _ d_ad1 dw 1 u8 e8) (CutX.take dO_f CutX.none) _ (gx_h dO_o) rfl ⟨rfl, rfl⟩ ⟨Nat.le_of_ble_eq_true rfl, Nat.le_of_ble_eq_true rfl⟩ rfl ⟨Nat.zero_le _, Nat.zero_le _⟩ rfl (Nat.le_of_ble_eq_true rfl) dX9_holds_14 (fun H locs hw => ?_)
    exact fin_i C hw (Option.some.inj hf) (fun o => o.1) (fun o => (dO G ad o.2 dw ++ [])) rfl rfl dX9_holds_17
set_option maxHeartbeats 4000000 in
set_option maxRecDepth 100000 in
theorem c_X9_freeing (l : Launch) (G : GG) (ad : Nat → Nat) (sz : Nat) (d_ad : Pic) (dw : Int64)  (out : Int32 × Pic) (hf : f_X9_freeing d_ad = some out) : Met l yX9_freeing (.code yX9_freeing cX9_freeing 4 (some .int) :: BT) ({ frames := 4, cells := 0, slots := 0, locals := 87 }) (va_Pc [.ref (ad 99)] (PreW G sz (dO G ad d_ad dw ++ []))) (Ans G out.1 (va_A (dO G ad d_ad dw ++ []) sz) (dO G ad out.2 dw ++ [])) 0 0 (va_A (dO G ad d_ad dw ++ []) sz) := by
  refine Met.into (by decide) (Nat.le_of_ble_eq_true rfl) ?_
  intro p e s m below meth c C hsz ls hl hw
  have hl : lv_has ls 4 [(0, .ref (ad 99))] := hl
  clear hsz
  generalize va_A (dO G ad d_ad dw ++ []) sz = A at hw ⊢
  have hB_85 : ∀ (d_ad : Pic) (t0 : Int32), b_X9_freeing_85   d_ad t0 = some out → ∀ (H : Heap) (locs : List Loc), Wd G A s H locs (dO G ad d_ad dw ++ []) → ∀ ls : Array Slot, lv_has ls 4 [] → W p l e ({ frames := 4, cells := 0, slots := 0, locals := 87 }) s m [.ref (ad 99)].toArray below meth c H locs 0 0 (MQ below (Ans G out.1 A (dO G ad out.2 dw ++ [])) [.ref (ad 99)].toArray s 0 0 A) (F0 m 85 ls [.int t0, .ref (ad 99)]) := by
    intro d_ad t0 hf H locs hw ls hl
    unfold b_X9_freeing_85 at hf
    obtain ⟨u7, e7, hf⟩ := bx hf
    refine r_callVi (ws' := (dO G ad u7.2 dw ++ [])) (As := [.int t0]) (rest := []) C hw hl.1 kX9_good ml_X9_222 (c_X9_good l G ad _ d_ad dw t0 u7 e7) (CutX.take dO_f CutX.none) _ (gx_h dO_o) rfl ⟨rfl, rfl⟩ ⟨Nat.le_of_ble_eq_true rfl, Nat.le_of_ble_eq_true rfl⟩ rfl ⟨Nat.zero_le _, Nat.zero_le _⟩ rfl (Nat.le_of_ble_eq_true rfl) dX9_freeing_85 (fun H locs hw => ?_)
    exact fin_i C hw (Option.some.inj hf) (fun o => o.1) (fun o => (dO G ad o.2 dw ++ [])) rfl rfl dX9_freeing_88
  have hB_69 : ∀ (d_ad : Pic) (v2 : Int32) (t0 : Int32), b_X9_freeing_69   d_ad v2 t0 = some out → ∀ (H : Heap) (locs : List Loc), Wd G A s H locs (dO G ad d_ad dw ++ []) → ∀ ls : Array Slot, lv_has ls 4 [(0, .ref (ad 99)), (2, .int v2)] → W p l e ({ frames := 4, cells := 0, slots := 0, locals := 87 }) s m [.ref (ad 99)].toArray below meth c H locs 0 0 (MQ below (Ans G out.1 A (dO G ad out.2 dw ++ [])) [.ref (ad 99)].toArray s 0 0 A) (F0 m 69 ls [.int t0]) := by
    intro d_ad v2 t0 hf H locs hw ls hl
    unfold b_X9_freeing_69 at hf
    refine r_istore0 C hl [(3, .int t0), (0, .ref (ad 99)), (2, .int v2)] (by decide) rfl dX9_freeing_69 (fun ls hl => ?_)
    refine r_aload0 C hl 1 rfl dX9_freeing_70 ?_
    obtain ⟨u6, e6, hf⟩ := bx hf
    refine r_callVv (ws' := (dO G ad u6 dw ++ [])) (As := []) (rest := []) C hw hl.1 kX9_bringsBack ml_X9_401 (c_X9_bringsBack l G ad _ d_ad dw u6 e6) (CutX.take dO_f CutX.none) _ (gx_h dO_o) rfl ⟨rfl, rfl⟩ ⟨Nat.le_of_ble_eq_true rfl, Nat.le_of_ble_eq_true rfl⟩ rfl ⟨Nat.zero_le _, Nat.zero_le _⟩ rfl (Nat.le_of_ble_eq_true rfl) dX9_freeing_71 (fun H locs hw => ?_)
    refine r_aload0 C hl 1 rfl dX9_freeing_74 ?_
    refine r_iload0 C hl 0 rfl dX9_freeing_75 ?_
    refine lv_if_eq (tgt := 83) C.1 C.2.1 dX9_freeing_76 (by decide) (fun hc => ?_) (fun hc => ?_)
    · replace hf := ifp hf hc
      refine lv_bipush (v := (-2)) C.1 C.2.1 dX9_freeing_83 (by decide) ?_
      exact hB_85  u6 (-2) hf _ _ hw _ (lv_sub hl [] rfl)
    · replace hf := ifn hf hc
      refine r_iload0 C hl 2 rfl dX9_freeing_79 ?_
      refine lv_goto (tgt := 85) C.1 C.2.1 dX9_freeing_80 (by decide) ?_
      exact hB_85  u6 v2 hf _ _ hw _ (lv_sub hl [] rfl)
  have hB_56 : ∀ (d_ad : Pic) (v1 : Int32) (v2 : Int32), b_X9_freeing_56   d_ad v1 v2 = some out → ∀ (H : Heap) (locs : List Loc), Wd G A s H locs (dO G ad d_ad dw ++ []) → ∀ ls : Array Slot, lv_has ls 4 [(0, .ref (ad 99)), (1, .int v1), (2, .int v2)] → W p l e ({ frames := 4, cells := 0, slots := 0, locals := 87 }) s m [.ref (ad 99)].toArray below meth c H locs 0 0 (MQ below (Ans G out.1 A (dO G ad out.2 dw ++ [])) [.ref (ad 99)].toArray s 0 0 A) (F0 m 56 ls []) := by
    intro d_ad v1 v2 hf H locs hw ls hl
    unfold b_X9_freeing_56 at hf
    refine r_aload0 C hl 0 rfl dX9_freeing_56 ?_
    obtain ⟨u5, e5, hf⟩ := bx hf
    refine r_callVi (ws' := (dO G ad d_ad dw ++ [])) (As := []) (rest := []) C hw hl.1 kX9_framesNow ml_X9_356 (c_X9_framesNow l G ad _ d_ad dw u5 e5) (CutX.take dO_f CutX.none) _ (gx_h dO_o) rfl ⟨rfl, rfl⟩ ⟨Nat.le_of_ble_eq_true rfl, Nat.le_of_ble_eq_true rfl⟩ rfl ⟨Nat.zero_le _, Nat.zero_le _⟩ rfl (Nat.le_of_ble_eq_true rfl) dX9_freeing_57 (fun H locs hw => ?_)
    refine r_iload0 C hl 1 rfl dX9_freeing_60 ?_
    refine lv_icmp_ge (tgt := 68) C.1 C.2.1 dX9_freeing_61 (by decide) (fun hc => ?_) (fun hc => ?_)
    · replace hf := ifp hf hc
      refine lv_iconst (v := 0) C.1 C.2.1 dX9_freeing_68 (by decide) ?_
      exact hB_69  d_ad v2 0 hf _ _ hw _ (lv_sub hl [0, 2] rfl)
    · replace hf := ifn hf hc
      refine lv_iconst (v := 1) C.1 C.2.1 dX9_freeing_64 (by decide) ?_
      refine lv_goto (tgt := 69) C.1 C.2.1 dX9_freeing_65 (by decide) ?_
      exact hB_69  d_ad v2 1 hf _ _ hw _ (lv_sub hl [0, 2] rfl)
  have hB_29 : ∀ (k29 : Pic → Int32 → Int32 → Option (Int32 × Pic)) (hk29 : ∀ (d_ad : Pic) (v1 : Int32) (v2 : Int32), k29 d_ad v1 v2 = some out → ∀ (H : Heap) (locs : List Loc), Wd G A s H locs (dO G ad d_ad dw ++ []) → ∀ ls : Array Slot, lv_has ls 4 [(0, .ref (ad 99)), (1, .int v1), (2, .int v2)] → W p l e ({ frames := 4, cells := 0, slots := 0, locals := 87 }) s m [.ref (ad 99)].toArray below meth c H locs 0 0 (MQ below (Ans G out.1 A (dO G ad out.2 dw ++ [])) [.ref (ad 99)].toArray s 0 0 A) (F0 m 29 ls [])), ∀ (d_ad : Pic) (v1 : Int32) (v2 : Int32), b_X9_freeing_29  k29 d_ad v1 v2 = some out → ∀ (H : Heap) (locs : List Loc), Wd G A s H locs (dO G ad d_ad dw ++ []) → ∀ ls : Array Slot, lv_has ls 4 [(0, .ref (ad 99)), (1, .int v1), (2, .int v2)] → W p l e ({ frames := 4, cells := 0, slots := 0, locals := 87 }) s m [.ref (ad 99)].toArray below meth c H locs 0 0 (MQ below (Ans G out.1 A (dO G ad out.2 dw ++ [])) [.ref (ad 99)].toArray s 0 0 A) (F0 m 29 ls []) := by
    intro k29 hk29 d_ad v1 v2 hf H locs hw ls hl
    unfold b_X9_freeing_29 at hf
    refine r_aload0 C hl 0 rfl dX9_freeing_29 ?_
    obtain ⟨u4, e4, hf⟩ := bx hf
    refine r_callVi (ws' := (dO G ad d_ad dw ++ [])) (As := []) (rest := []) C hw hl.1 kX9_framesNow ml_X9_356 (c_X9_framesNow l G ad _ d_ad dw u4 e4) (CutX.take dO_f CutX.none) _ (gx_h dO_o) rfl ⟨rfl, rfl⟩ ⟨Nat.le_of_ble_eq_true rfl, Nat.le_of_ble_eq_true rfl⟩ rfl ⟨Nat.zero_le _, Nat.zero_le _⟩ rfl (Nat.le_of_ble_eq_true rfl) dX9_freeing_30 (fun H locs hw => ?_)
    refine r_iload0 C hl 1 rfl dX9_freeing_33 ?_
    refine lv_icmp_ne (tgt := 56) C.1 C.2.1 dX9_freeing_34 (by decide) (fun hc => ?_) (fun hc => ?_)
    · replace hf := ifn hf hc
      exact hB_56  d_ad v1 v2 hf _ _ hw _ (lv_sub hl [0, 1, 2] rfl)
    · replace hf := ifp hf hc
      refine r_aload0 C hl 0 rfl dX9_freeing_37 ?_
      obtain ⟨u8, e8, hf⟩ := bx hf
      refine r_callVi (ws' := (dO G ad d_ad dw ++ [])) (As := []) (rest := []) C hw hl.1 kX9_coldestFree ml_X9_337 (c_X9_coldestFree l G ad _ d_ad dw u8 e8) (CutX.take dO_f CutX.none) _ (gx_h dO_o) rfl ⟨rfl, rfl⟩ ⟨Nat.le_of_ble_eq_true rfl, Nat.le_of_ble_eq_true rfl⟩ rfl ⟨Nat.zero_le _, Nat.zero_le _⟩ rfl (Nat.le_of_ble_eq_true rfl) dX9_freeing_38 (fun H locs hw => ?_)
      refine lv_iconst (v := (-1)) C.1 C.2.1 dX9_freeing_41 (by decide) ?_
      refine lv_icmp_eq (tgt := 56) C.1 C.2.1 dX9_freeing_42 (by decide) (fun hc => ?_) (fun hc => ?_)
      · replace hf := ifp hf hc
        exact hB_56  d_ad v1 v2 hf _ _ hw _ (lv_sub hl [0, 1, 2] rfl)
      · replace hf := ifn hf hc
        refine r_aload0 C hl 0 rfl dX9_freeing_45 ?_
        obtain ⟨u9, e9, hf⟩ := bx hf
        refine r_callVi (ws' := (dO G ad u9.2 dw ++ [])) (As := []) (rest := []) C hw hl.1 kX9_writesColdest ml_X9_362 (c_X9_writesColdest l G ad _ d_ad dw u9 e9) (CutX.take dO_f CutX.none) _ (gx_h dO_o) rfl ⟨rfl, rfl⟩ ⟨Nat.le_of_ble_eq_true rfl, Nat.le_of_ble_eq_true rfl⟩ rfl ⟨Nat.zero_le _, Nat.zero_le _⟩ rfl (Nat.le_of_ble_eq_true rfl) dX9_freeing_46 (fun H locs hw => ?_)
        refine lv_pop C.1 C.2.1 dX9_freeing_49 rfl ?_
        refine r_iinc C hl 2 (v2 + 1) [(2, .int (v2 + 1)), (0, .ref (ad 99)), (1, .int v1)] rfl (iinc_e (by decide)) (by decide) rfl dX9_freeing_50 (fun ls hl => ?_)
        refine lv_goto (tgt := 29) C.1 C.2.1 dX9_freeing_53 (by decide) ?_
        exact hk29 u9.2 v1 (v2 + 1) hf _ _ hw _ (lv_sub hl [1, 2, 0] rfl)
  have hL_29 : ∀ n : Nat, ∀ (d_ad : Pic) (v1 : Int32) (v2 : Int32), L_X9_freeing_29   n d_ad v1 v2 = some out → ∀ (H : Heap) (locs : List Loc), Wd G A s H locs (dO G ad d_ad dw ++ []) → ∀ ls : Array Slot, lv_has ls 4 [(0, .ref (ad 99)), (1, .int v1), (2, .int v2)] → W p l e ({ frames := 4, cells := 0, slots := 0, locals := 87 }) s m [.ref (ad 99)].toArray below meth c H locs 0 0 (MQ below (Ans G out.1 A (dO G ad out.2 dw ++ [])) [.ref (ad 99)].toArray s 0 0 A) (F0 m 29 ls []) := by
    intro  n
    induction n with
    | zero => intro d_ad v1 v2 hf; cases hf
    | succ n ih => exact hB_29 _ ih
  unfold f_X9_freeing at hf
  refine r_aload0 C hl 0 rfl dX9_freeing_0 ?_
  refine lv_iconst (v := 0) C.1 C.2.1 dX9_freeing_1 (by decide) ?_
  obtain ⟨d_ad1, e1, hf⟩ := bx hf
  refine r_put C hw _ (gx_h dO_o) 0 fp_X9_75 rfl rfl (Nat.le_of_ble_eq_true rfl) (dO G ad d_ad1 dw ++ []) (sx_h dO_o (dO_p0 e1)) dX9_freeing_2 (fun H locs hw => ?_)
  refine r_aload0 C hl 0 rfl dX9_freeing_5 ?_
  refine r_get C hw _ (gx_h dO_o) 19 fl_X9_225 rfl dX9_freeing_6 ?_
  refine lv_if_ne (tgt := 18) C.1 C.2.1 dX9_freeing_9 (by decide) (fun hc => ?_) (fun hc => ?_)
  · replace hf := ifn hf hc
    refine r_aload0 C hl 0 rfl dX9_freeing_18 ?_
    obtain ⟨u2, e2, hf⟩ := bx hf
    refine r_callVv (ws' := (dO G ad u2 dw ++ [])) (As := []) (rest := []) C hw hl.1 kX9_keepsAside ml_X9_395 (c_X9_keepsAside l G ad _ d_ad1 dw u2 e2) (CutX.take dO_f CutX.none) _ (gx_h dO_o) rfl ⟨rfl, rfl⟩ ⟨Nat.le_of_ble_eq_true rfl, Nat.le_of_ble_eq_true rfl⟩ rfl ⟨Nat.zero_le _, Nat.zero_le _⟩ rfl (Nat.le_of_ble_eq_true rfl) dX9_freeing_19 (fun H locs hw => ?_)
    refine r_aload0 C hl 0 rfl dX9_freeing_22 ?_
    obtain ⟨u3, e3, hf⟩ := bx hf
    refine r_callVi (ws' := (dO G ad u2 dw ++ [])) (As := []) (rest := []) C hw hl.1 kX9_framesNow ml_X9_356 (c_X9_framesNow l G ad _ u2 dw u3 e3) (CutX.take dO_f CutX.none) _ (gx_h dO_o) rfl ⟨rfl, rfl⟩ ⟨Nat.le_of_ble_eq_true rfl, Nat.le_of_ble_eq_true rfl⟩ rfl ⟨Nat.zero_le _, Nat.zero_le _⟩ rfl (Nat.le_of_ble_eq_true rfl) dX9_freeing_23 (fun H locs hw => ?_)
    refine r_istore0 C hl [(1, .int u3), (0, .ref (ad 99))] (by decide) rfl dX9_freeing_26 (fun ls hl => ?_)
    refine lv_iconst (v := 0) C.1 C.2.1 dX9_freeing_27 (by decide) ?_
    refine r_istore0 C hl [(2, .int 0), (1, .int u3), (0, .ref (ad 99))] (by decide) rfl dX9_freeing_28 (fun ls hl => ?_)
    exact hL_29  FU u2 u3 0 hf _ _ hw _ (lv_sub hl [2, 1, 0] rfl)
  · replace hf := ifp hf hc
    refine r_aload0 C hl 0 rfl dX9_freeing_12 ?_
    refine lv_iconst (v := 1) C.1 C.2.1 dX9_freeing_13 (by decide) ?_
    obtain ⟨u10, e10, hf⟩ := bx hf
    refine r_callVi (ws' := (dO G ad u10.2 dw ++ [])) (As := [.int 1]) (rest := []) C hw hl.1 kX9_refused ml_X9_210 (c_X9_refused l G ad _ d_ad1 dw 1 u10 e10) (CutX.take dO_f CutX.none) _ (gx_h dO_o) rfl ⟨rfl, rfl⟩ ⟨Nat.le_of_ble_eq_true rfl, Nat.le_of_ble_eq_true rfl⟩ rfl ⟨Nat.zero_le _, Nat.zero_le _⟩ rfl (Nat.le_of_ble_eq_true rfl) dX9_freeing_14 (fun H locs hw => ?_)
    exact fin_i C hw (Option.some.inj hf) (fun o => o.1) (fun o => (dO G ad o.2 dw ++ [])) rfl rfl dX9_freeing_17
set_option maxHeartbeats 4000000 in
set_option maxRecDepth 100000 in
theorem c_X9_framesBy (l : Launch) (G : GG) (ad : Nat → Nat) (sz : Nat) (d_ad : Pic) (dw : Int64) (x1 : Int32) (out : Int32) (hf : f_X9_framesBy d_ad x1 = some out) : Met l yX9_framesBy (.code yX9_framesBy cX9_framesBy 6 (some .int) :: BT) ({ frames := 2, cells := 0, slots := 0, locals := 42 }) (va_Pc [.ref (ad 99), .int x1] (PreW G sz (dO G ad d_ad dw ++ []))) (Ans G out (va_A (dO G ad d_ad dw ++ []) sz) (dO G ad d_ad dw ++ [])) 0 0 (va_A (dO G ad d_ad dw ++ []) sz) := by
  refine Met.into (by decide) (Nat.le_of_ble_eq_true rfl) ?_
  intro p e s m below meth c C hsz ls hl hw
  have hl : lv_has ls 6 [(0, .ref (ad 99)), (1, .int x1)] := hl
  clear hsz
  generalize va_A (dO G ad d_ad dw ++ []) sz = A at hw ⊢
  have hB_58 : ∀ (k4 : Int32 → Int32 → Option (Int32)) (hk4 : ∀ (v2 : Int32) (v3 : Int32), k4 v2 v3 = some out → ∀ (H : Heap) (locs : List Loc), Wd G A s H locs (dO G ad d_ad dw ++ []) → ∀ ls : Array Slot, lv_has ls 6 [(0, .ref (ad 99)), (1, .int x1), (2, .int v2), (3, .int v3)] → W p l e ({ frames := 2, cells := 0, slots := 0, locals := 42 }) s m [.ref (ad 99), .int x1].toArray below meth c H locs 0 0 (MQ below (Ans G out A (dO G ad d_ad dw ++ [])) [.ref (ad 99), .int x1].toArray s 0 0 A) (F0 m 4 ls [])) (k16 : Int32 → Int32 → Int32 → Int32 → Option (Int32)) (hk16 : ∀ (v2 : Int32) (v3 : Int32) (v4 : Int32) (v5 : Int32), k16 v2 v3 v4 v5 = some out → ∀ (H : Heap) (locs : List Loc), Wd G A s H locs (dO G ad d_ad dw ++ []) → ∀ ls : Array Slot, lv_has ls 6 [(0, .ref (ad 99)), (1, .int x1), (2, .int v2), (3, .int v3), (4, .int v4), (5, .int v5)] → W p l e ({ frames := 2, cells := 0, slots := 0, locals := 42 }) s m [.ref (ad 99), .int x1].toArray below meth c H locs 0 0 (MQ below (Ans G out A (dO G ad d_ad dw ++ [])) [.ref (ad 99), .int x1].toArray s 0 0 A) (F0 m 16 ls [])), ∀ (v2 : Int32) (v3 : Int32) (v5 : Int32) (t0 : Int32), b_X9_framesBy_58 d_ad x1 k4 k16 v2 v3 v5 t0 = some out → ∀ (H : Heap) (locs : List Loc), Wd G A s H locs (dO G ad d_ad dw ++ []) → ∀ ls : Array Slot, lv_has ls 6 [(0, .ref (ad 99)), (1, .int x1), (2, .int v2), (3, .int v3), (5, .int v5)] → W p l e ({ frames := 2, cells := 0, slots := 0, locals := 42 }) s m [.ref (ad 99), .int x1].toArray below meth c H locs 0 0 (MQ below (Ans G out A (dO G ad d_ad dw ++ [])) [.ref (ad 99), .int x1].toArray s 0 0 A) (F0 m 58 ls [.int t0]) := by
    intro k4 hk4 k16 hk16 v2 v3 v5 t0 hf H locs hw ls hl
    unfold b_X9_framesBy_58 at hf
    refine lv_iconst (v := 0) C.1 C.2.1 dX9_framesBy_58 (by decide) ?_
    refine lv_iadd C.1 C.2.1 dX9_framesBy_59 ?_
    refine r_istore C hl [(4, .int (t0 + 0)), (0, .ref (ad 99)), (1, .int x1), (2, .int v2), (3, .int v3), (5, .int v5)] (by decide) rfl dX9_framesBy_60 (fun ls hl => ?_)
    refine r_iinc C hl 5 (v5 + 1) [(5, .int (v5 + 1)), (4, .int (t0 + 0)), (0, .ref (ad 99)), (1, .int x1), (2, .int v2), (3, .int v3)] rfl (iinc_e (by decide)) (by decide) rfl dX9_framesBy_62 (fun ls hl => ?_)
    refine lv_goto (tgt := 16) C.1 C.2.1 dX9_framesBy_65 (by decide) ?_
    exact hk16 v2 v3 (t0 + 0) (v5 + 1) hf _ _ hw _ (lv_sub hl [2, 3, 4, 5, 1, 0] rfl)
  have hB_16 : ∀ (k4 : Int32 → Int32 → Option (Int32)) (hk4 : ∀ (v2 : Int32) (v3 : Int32), k4 v2 v3 = some out → ∀ (H : Heap) (locs : List Loc), Wd G A s H locs (dO G ad d_ad dw ++ []) → ∀ ls : Array Slot, lv_has ls 6 [(0, .ref (ad 99)), (1, .int x1), (2, .int v2), (3, .int v3)] → W p l e ({ frames := 2, cells := 0, slots := 0, locals := 42 }) s m [.ref (ad 99), .int x1].toArray below meth c H locs 0 0 (MQ below (Ans G out A (dO G ad d_ad dw ++ [])) [.ref (ad 99), .int x1].toArray s 0 0 A) (F0 m 4 ls [])) (k16 : Int32 → Int32 → Int32 → Int32 → Option (Int32)) (hk16 : ∀ (v2 : Int32) (v3 : Int32) (v4 : Int32) (v5 : Int32), k16 v2 v3 v4 v5 = some out → ∀ (H : Heap) (locs : List Loc), Wd G A s H locs (dO G ad d_ad dw ++ []) → ∀ ls : Array Slot, lv_has ls 6 [(0, .ref (ad 99)), (1, .int x1), (2, .int v2), (3, .int v3), (4, .int v4), (5, .int v5)] → W p l e ({ frames := 2, cells := 0, slots := 0, locals := 42 }) s m [.ref (ad 99), .int x1].toArray below meth c H locs 0 0 (MQ below (Ans G out A (dO G ad d_ad dw ++ [])) [.ref (ad 99), .int x1].toArray s 0 0 A) (F0 m 16 ls [])), ∀ (v2 : Int32) (v3 : Int32) (v4 : Int32) (v5 : Int32), b_X9_framesBy_16 d_ad x1 k4 k16 v2 v3 v4 v5 = some out → ∀ (H : Heap) (locs : List Loc), Wd G A s H locs (dO G ad d_ad dw ++ []) → ∀ ls : Array Slot, lv_has ls 6 [(0, .ref (ad 99)), (1, .int x1), (2, .int v2), (3, .int v3), (4, .int v4), (5, .int v5)] → W p l e ({ frames := 2, cells := 0, slots := 0, locals := 42 }) s m [.ref (ad 99), .int x1].toArray below meth c H locs 0 0 (MQ below (Ans G out A (dO G ad d_ad dw ++ [])) [.ref (ad 99), .int x1].toArray s 0 0 A) (F0 m 16 ls []) := by
    intro k4 hk4 k16 hk16 v2 v3 v4 v5 hf H locs hw ls hl
    unfold b_X9_framesBy_16 at hf
    refine r_iload C hl 5 rfl dX9_framesBy_16 ?_
    refine lv_bipush (v := 30) C.1 C.2.1 dX9_framesBy_18 (by decide) ?_
    refine lv_icmp_ge (tgt := 68) C.1 C.2.1 dX9_framesBy_20 (by decide) (fun hc => ?_) (fun hc => ?_)
    · replace hf := ifp hf hc
      refine r_iload0 C hl 2 rfl dX9_framesBy_68 ?_
      refine r_iload C hl 4 rfl dX9_framesBy_69 ?_
      refine r_iload0 C hl 3 rfl dX9_framesBy_71 ?_
      obtain ⟨u1, e1, hf⟩ := bx hf
      refine r_callSi (ws' := (dO G ad d_ad dw ++ [])) (As := [.int v3]) (rest := [.int v4, .int v2]) C hw hl.1 kX9_slotsOf ml_X9_295 (c_X9_slotsOf l G _ v3 u1 e1) CutX.none ⟨rfl, rfl⟩ ⟨Nat.le_of_ble_eq_true rfl, Nat.le_of_ble_eq_true rfl⟩ rfl ⟨Nat.zero_le _, Nat.zero_le _⟩ rfl (Nat.le_of_ble_eq_true rfl) dX9_framesBy_72 (fun H locs hw => ?_)
      refine lv_iadd C.1 C.2.1 dX9_framesBy_75 ?_
      refine lv_iconst (v := 1) C.1 C.2.1 dX9_framesBy_76 (by decide) ?_
      refine lv_isub C.1 C.2.1 dX9_framesBy_77 ?_
      refine r_iload0 C hl 3 rfl dX9_framesBy_78 ?_
      obtain ⟨u2, e2, hf⟩ := bx hf
      refine r_callSi (ws' := (dO G ad d_ad dw ++ [])) (As := [.int v3]) (rest := [.int ((v4 + u1) - 1), .int v2]) C hw hl.1 kX9_slotsOf ml_X9_295 (c_X9_slotsOf l G _ v3 u2 e2) CutX.none ⟨rfl, rfl⟩ ⟨Nat.le_of_ble_eq_true rfl, Nat.le_of_ble_eq_true rfl⟩ rfl ⟨Nat.zero_le _, Nat.zero_le _⟩ rfl (Nat.le_of_ble_eq_true rfl) dX9_framesBy_79 (fun H locs hw => ?_)
      obtain ⟨v3_, e3, hf⟩ := bx hf
      refine r_idiv C e3 dX9_framesBy_82 ?_
      refine r_iload0 C hl 3 rfl dX9_framesBy_83 ?_
      obtain ⟨u4, e4, hf⟩ := bx hf
      refine r_callSi (ws' := (dO G ad d_ad dw ++ [])) (As := [.int v3]) (rest := [.int v3_, .int v2]) C hw hl.1 kX9_framesOf ml_X9_286 (c_X9_framesOf l G _ v3 u4 e4) CutX.none ⟨rfl, rfl⟩ ⟨Nat.le_of_ble_eq_true rfl, Nat.le_of_ble_eq_true rfl⟩ rfl ⟨Nat.zero_le _, Nat.zero_le _⟩ rfl (Nat.le_of_ble_eq_true rfl) dX9_framesBy_84 (fun H locs hw => ?_)
      refine lv_imul C.1 C.2.1 dX9_framesBy_87 ?_
      refine lv_iadd C.1 C.2.1 dX9_framesBy_88 ?_
      refine r_istore0 C hl [(2, .int (v2 + (v3_ * u4))), (0, .ref (ad 99)), (1, .int x1), (3, .int v3), (4, .int v4), (5, .int v5)] (by decide) rfl dX9_framesBy_89 (fun ls hl => ?_)
      refine r_iload0 C hl 3 rfl dX9_framesBy_90 ?_
      refine r_iload0 C hl 2 rfl dX9_framesBy_91 ?_
      refine lv_iadd C.1 C.2.1 dX9_framesBy_92 ?_
      refine r_istore0 C hl [(3, .int (v3 + x1)), (2, .int (v2 + (v3_ * u4))), (0, .ref (ad 99)), (1, .int x1), (4, .int v4), (5, .int v5)] (by decide) rfl dX9_framesBy_93 (fun ls hl => ?_)
      refine lv_goto (tgt := 4) C.1 C.2.1 dX9_framesBy_94 (by decide) ?_
      exact hk4 (v2 + (v3_ * u4)) (v3 + x1) hf _ _ hw _ (lv_sub hl [2, 3, 1, 0] rfl)
    · replace hf := ifn hf hc
      refine r_iload C hl 4 rfl dX9_framesBy_23 ?_
      refine r_aload0 C hl 0 rfl dX9_framesBy_25 ?_
      refine r_iload C hl 5 rfl dX9_framesBy_26 ?_
      obtain ⟨u5, e5, hf⟩ := bx hf
      refine r_callVi (ws' := (dO G ad d_ad dw ++ [])) (As := [.int v5]) (rest := [.int v4]) C hw hl.1 kX9_placeOf ml_X9_325 (c_X9_placeOf l G ad _ d_ad dw v5 u5 e5) (CutX.take dO_f CutX.none) _ (gx_h dO_o) rfl ⟨rfl, rfl⟩ ⟨Nat.le_of_ble_eq_true rfl, Nat.le_of_ble_eq_true rfl⟩ rfl ⟨Nat.zero_le _, Nat.zero_le _⟩ rfl (Nat.le_of_ble_eq_true rfl) dX9_framesBy_28 (fun H locs hw => ?_)
      refine lv_iconst (v := 2) C.1 C.2.1 dX9_framesBy_31 (by decide) ?_
      refine lv_icmp_ne (tgt := 58) C.1 C.2.1 dX9_framesBy_32 (by decide) (fun hc => ?_) (fun hc => ?_)
      · replace hf := ifn hf hc
        exact hB_58 k4 hk4 k16 hk16 v2 v3 v5 v4 hf _ _ hw _ (lv_sub hl [0, 1, 2, 3, 5] rfl)
      · replace hf := ifp hf hc
        refine r_aload0 C hl 0 rfl dX9_framesBy_35 ?_
        refine r_get C hw _ (gx_h dO_o) 20 fl_X9_35 rfl dX9_framesBy_36 ?_
        refine lv_sipush (v := 195) C.1 C.2.1 dX9_framesBy_39 (by decide) ?_
        refine r_iload C hl 5 rfl dX9_framesBy_42 ?_
        refine lv_iadd C.1 C.2.1 dX9_framesBy_44 ?_
        obtain ⟨v6_, e6, hf⟩ := bx hf
        refine r_iald C hw _ (gx_h dO_g20) e6 dX9_framesBy_45 ?_
        refine r_iload0 C hl 1 rfl dX9_framesBy_46 ?_
        obtain ⟨u7, e7, hf⟩ := bx hf
        refine r_callSi (ws' := (dO G ad d_ad dw ++ [])) (As := [.int v6_, .int x1]) (rest := [.int v4]) C hw hl.1 kX9_homeOf ml_X9_289 (c_X9_homeOf l G _ v6_ x1 u7 e7) CutX.none ⟨rfl, rfl⟩ ⟨Nat.le_of_ble_eq_true rfl, Nat.le_of_ble_eq_true rfl⟩ rfl ⟨Nat.zero_le _, Nat.zero_le _⟩ rfl (Nat.le_of_ble_eq_true rfl) dX9_framesBy_47 (fun H locs hw => ?_)
        refine r_iload0 C hl 3 rfl dX9_framesBy_50 ?_
        refine lv_icmp_ne (tgt := 58) C.1 C.2.1 dX9_framesBy_51 (by decide) (fun hc => ?_) (fun hc => ?_)
        · replace hf := ifn hf hc
          exact hB_58 k4 hk4 k16 hk16 v2 v3 v5 v4 hf _ _ hw _ (lv_sub hl [0, 1, 2, 3, 5] rfl)
        · replace hf := ifp hf hc
          refine lv_iconst (v := 1) C.1 C.2.1 dX9_framesBy_54 (by decide) ?_
          refine lv_goto (tgt := 59) C.1 C.2.1 dX9_framesBy_55 (by decide) ?_
          refine lv_iadd C.1 C.2.1 dX9_framesBy_59 ?_
          refine r_istore C hl [(4, .int (v4 + 1)), (0, .ref (ad 99)), (1, .int x1), (2, .int v2), (3, .int v3), (5, .int v5)] (by decide) rfl dX9_framesBy_60 (fun ls hl => ?_)
          refine r_iinc C hl 5 (v5 + 1) [(5, .int (v5 + 1)), (4, .int (v4 + 1)), (0, .ref (ad 99)), (1, .int x1), (2, .int v2), (3, .int v3)] rfl (iinc_e (by decide)) (by decide) rfl dX9_framesBy_62 (fun ls hl => ?_)
          refine lv_goto (tgt := 16) C.1 C.2.1 dX9_framesBy_65 (by decide) ?_
          exact hk16 v2 v3 (v4 + 1) (v5 + 1) hf _ _ hw _ (lv_sub hl [2, 3, 4, 5, 1, 0] rfl)
  have hL_16 : ∀ (k4 : Int32 → Int32 → Option (Int32)) (hk4 : ∀ (v2 : Int32) (v3 : Int32), k4 v2 v3 = some out → ∀ (H : Heap) (locs : List Loc), Wd G A s H locs (dO G ad d_ad dw ++ []) → ∀ ls : Array Slot, lv_has ls 6 [(0, .ref (ad 99)), (1, .int x1), (2, .int v2), (3, .int v3)] → W p l e ({ frames := 2, cells := 0, slots := 0, locals := 42 }) s m [.ref (ad 99), .int x1].toArray below meth c H locs 0 0 (MQ below (Ans G out A (dO G ad d_ad dw ++ [])) [.ref (ad 99), .int x1].toArray s 0 0 A) (F0 m 4 ls [])), ∀ n : Nat, ∀ (v2 : Int32) (v3 : Int32) (v4 : Int32) (v5 : Int32), L_X9_framesBy_16 d_ad x1 k4 n v2 v3 v4 v5 = some out → ∀ (H : Heap) (locs : List Loc), Wd G A s H locs (dO G ad d_ad dw ++ []) → ∀ ls : Array Slot, lv_has ls 6 [(0, .ref (ad 99)), (1, .int x1), (2, .int v2), (3, .int v3), (4, .int v4), (5, .int v5)] → W p l e ({ frames := 2, cells := 0, slots := 0, locals := 42 }) s m [.ref (ad 99), .int x1].toArray below meth c H locs 0 0 (MQ below (Ans G out A (dO G ad d_ad dw ++ [])) [.ref (ad 99), .int x1].toArray s 0 0 A) (F0 m 16 ls []) := by
    intro k4 hk4 n
    induction n with
    | zero => intro v2 v3 v4 v5 hf; cases hf
    | succ n ih => exact hB_16 k4 hk4 _ ih
  have hB_4 : ∀ (k4 : Int32 → Int32 → Option (Int32)) (hk4 : ∀ (v2 : Int32) (v3 : Int32), k4 v2 v3 = some out → ∀ (H : Heap) (locs : List Loc), Wd G A s H locs (dO G ad d_ad dw ++ []) → ∀ ls : Array Slot, lv_has ls 6 [(0, .ref (ad 99)), (1, .int x1), (2, .int v2), (3, .int v3)] → W p l e ({ frames := 2, cells := 0, slots := 0, locals := 42 }) s m [.ref (ad 99), .int x1].toArray below meth c H locs 0 0 (MQ below (Ans G out A (dO G ad d_ad dw ++ [])) [.ref (ad 99), .int x1].toArray s 0 0 A) (F0 m 4 ls [])), ∀ (v2 : Int32) (v3 : Int32), b_X9_framesBy_4 d_ad x1 k4 v2 v3 = some out → ∀ (H : Heap) (locs : List Loc), Wd G A s H locs (dO G ad d_ad dw ++ []) → ∀ ls : Array Slot, lv_has ls 6 [(0, .ref (ad 99)), (1, .int x1), (2, .int v2), (3, .int v3)] → W p l e ({ frames := 2, cells := 0, slots := 0, locals := 42 }) s m [.ref (ad 99), .int x1].toArray below meth c H locs 0 0 (MQ below (Ans G out A (dO G ad d_ad dw ++ [])) [.ref (ad 99), .int x1].toArray s 0 0 A) (F0 m 4 ls []) := by
    intro k4 hk4 v2 v3 hf H locs hw ls hl
    unfold b_X9_framesBy_4 at hf
    refine r_iload0 C hl 3 rfl dX9_framesBy_4 ?_
    refine lv_bipush (v := 16) C.1 C.2.1 dX9_framesBy_5 (by decide) ?_
    refine lv_icmp_gt (tgt := 97) C.1 C.2.1 dX9_framesBy_7 (by decide) (fun hc => ?_) (fun hc => ?_)
    · replace hf := ifp hf hc
      refine r_iload0 C hl 2 rfl dX9_framesBy_97 ?_
      exact fin_i C hw (Option.some.inj hf) (fun o => o) (fun o => (dO G ad d_ad dw ++ [])) rfl rfl dX9_framesBy_98
    · replace hf := ifn hf hc
      refine lv_iconst (v := 0) C.1 C.2.1 dX9_framesBy_10 (by decide) ?_
      refine r_istore C hl [(4, .int 0), (0, .ref (ad 99)), (1, .int x1), (2, .int v2), (3, .int v3)] (by decide) rfl dX9_framesBy_11 (fun ls hl => ?_)
      refine lv_iconst (v := 0) C.1 C.2.1 dX9_framesBy_13 (by decide) ?_
      refine r_istore C hl [(5, .int 0), (4, .int 0), (0, .ref (ad 99)), (1, .int x1), (2, .int v2), (3, .int v3)] (by decide) rfl dX9_framesBy_14 (fun ls hl => ?_)
      exact hL_16 k4 hk4 FU v2 v3 0 0 hf _ _ hw _ (lv_sub hl [2, 3, 4, 5, 1, 0] rfl)
  have hL_4 : ∀ n : Nat, ∀ (v2 : Int32) (v3 : Int32), L_X9_framesBy_4 d_ad x1  n v2 v3 = some out → ∀ (H : Heap) (locs : List Loc), Wd G A s H locs (dO G ad d_ad dw ++ []) → ∀ ls : Array Slot, lv_has ls 6 [(0, .ref (ad 99)), (1, .int x1), (2, .int v2), (3, .int v3)] → W p l e ({ frames := 2, cells := 0, slots := 0, locals := 42 }) s m [.ref (ad 99), .int x1].toArray below meth c H locs 0 0 (MQ below (Ans G out A (dO G ad d_ad dw ++ [])) [.ref (ad 99), .int x1].toArray s 0 0 A) (F0 m 4 ls []) := by
    intro  n
    induction n with
    | zero => intro v2 v3 hf; cases hf
    | succ n ih => exact hB_4 _ ih
  unfold f_X9_framesBy at hf
  refine lv_iconst (v := 0) C.1 C.2.1 dX9_framesBy_0 (by decide) ?_
  refine r_istore0 C hl [(2, .int 0), (0, .ref (ad 99)), (1, .int x1)] (by decide) rfl dX9_framesBy_1 (fun ls hl => ?_)
  refine r_iload0 C hl 2 rfl dX9_framesBy_2 ?_
  refine r_istore0 C hl [(3, .int x1), (2, .int 0), (0, .ref (ad 99)), (1, .int x1)] (by decide) rfl dX9_framesBy_3 (fun ls hl => ?_)
  exact hL_4  FU 0 x1 hf _ _ hw _ (lv_sub hl [2, 3, 1, 0] rfl)
set_option maxHeartbeats 4000000 in
set_option maxRecDepth 100000 in
theorem c_X9_fittest (l : Launch) (G : GG) (ad : Nat → Nat) (sz : Nat) (d_ad : Pic) (dw : Int64)  (out : Int32 × Pic) (hf : f_X9_fittest d_ad = some out) : Met l yX9_fittest (.code yX9_fittest cX9_fittest 3 (some .int) :: BT) ({ frames := 3, cells := 0, slots := 0, locals := 67 }) (va_Pc [.ref (ad 99)] (PreW G sz (dO G ad d_ad dw ++ []))) (Ans G out.1 (va_A (dO G ad d_ad dw ++ []) sz) (dO G ad out.2 dw ++ [])) 0 0 (va_A (dO G ad d_ad dw ++ []) sz) := by
  refine Met.into (by decide) (Nat.le_of_ble_eq_true rfl) ?_
  intro p e s m below meth c C hsz ls hl hw
  have hl : lv_has ls 3 [(0, .ref (ad 99))] := hl
  clear hsz
  generalize va_A (dO G ad d_ad dw ++ []) sz = A at hw ⊢
  have hB_22 : ∀ (k22 : Pic → Int32 → Int32 → Option (Int32 × Pic)) (hk22 : ∀ (d_ad : Pic) (v1 : Int32) (v2 : Int32), k22 d_ad v1 v2 = some out → ∀ (H : Heap) (locs : List Loc), Wd G A s H locs (dO G ad d_ad dw ++ []) → ∀ ls : Array Slot, lv_has ls 3 [(0, .ref (ad 99)), (1, .int v1), (2, .int v2)] → W p l e ({ frames := 3, cells := 0, slots := 0, locals := 67 }) s m [.ref (ad 99)].toArray below meth c H locs 0 0 (MQ below (Ans G out.1 A (dO G ad out.2 dw ++ [])) [.ref (ad 99)].toArray s 0 0 A) (F0 m 22 ls [])), ∀ (d_ad : Pic) (v1 : Int32) (v2 : Int32), b_X9_fittest_22  k22 d_ad v1 v2 = some out → ∀ (H : Heap) (locs : List Loc), Wd G A s H locs (dO G ad d_ad dw ++ []) → ∀ ls : Array Slot, lv_has ls 3 [(0, .ref (ad 99)), (1, .int v1), (2, .int v2)] → W p l e ({ frames := 3, cells := 0, slots := 0, locals := 67 }) s m [.ref (ad 99)].toArray below meth c H locs 0 0 (MQ below (Ans G out.1 A (dO G ad out.2 dw ++ [])) [.ref (ad 99)].toArray s 0 0 A) (F0 m 22 ls []) := by
    intro k22 hk22 d_ad v1 v2 hf H locs hw ls hl
    unfold b_X9_fittest_22 at hf
    refine r_iload0 C hl 2 rfl dX9_fittest_22 ?_
    refine lv_iconst (v := 4) C.1 C.2.1 dX9_fittest_23 (by decide) ?_
    refine lv_icmp_gt (tgt := 48) C.1 C.2.1 dX9_fittest_24 (by decide) (fun hc => ?_) (fun hc => ?_)
    · replace hf := ifp hf hc
      refine r_aload0 C hl 0 rfl dX9_fittest_48 ?_
      refine r_iload0 C hl 1 rfl dX9_fittest_49 ?_
      obtain ⟨u2, e2, hf⟩ := bx hf
      refine r_callVi (ws' := (dO G ad u2.2 dw ++ [])) (As := [.int v1]) (rest := []) C hw hl.1 kX9_good ml_X9_222 (c_X9_good l G ad _ d_ad dw v1 u2 e2) (CutX.take dO_f CutX.none) _ (gx_h dO_o) rfl ⟨rfl, rfl⟩ ⟨Nat.le_of_ble_eq_true rfl, Nat.le_of_ble_eq_true rfl⟩ rfl ⟨Nat.zero_le _, Nat.zero_le _⟩ rfl (Nat.le_of_ble_eq_true rfl) dX9_fittest_50 (fun H locs hw => ?_)
      exact fin_i C hw (Option.some.inj hf) (fun o => o.1) (fun o => (dO G ad o.2 dw ++ [])) rfl rfl dX9_fittest_53
    · replace hf := ifn hf hc
      refine r_aload0 C hl 0 rfl dX9_fittest_27 ?_
      refine r_iload0 C hl 2 rfl dX9_fittest_28 ?_
      obtain ⟨u3, e3, hf⟩ := bx hf
      refine r_callVi (ws' := (dO G ad d_ad dw ++ [])) (As := [.int v2]) (rest := []) C hw hl.1 kX9_framesBy ml_X9_407 (c_X9_framesBy l G ad _ d_ad dw v2 u3 e3) (CutX.take dO_f CutX.none) _ (gx_h dO_o) rfl ⟨rfl, rfl⟩ ⟨Nat.le_of_ble_eq_true rfl, Nat.le_of_ble_eq_true rfl⟩ rfl ⟨Nat.zero_le _, Nat.zero_le _⟩ rfl (Nat.le_of_ble_eq_true rfl) dX9_fittest_29 (fun H locs hw => ?_)
      refine r_aload0 C hl 0 rfl dX9_fittest_32 ?_
      refine r_iload0 C hl 1 rfl dX9_fittest_33 ?_
      obtain ⟨u4, e4, hf⟩ := bx hf
      refine r_callVi (ws' := (dO G ad d_ad dw ++ [])) (As := [.int v1]) (rest := [.int u3]) C hw hl.1 kX9_framesBy ml_X9_407 (c_X9_framesBy l G ad _ d_ad dw v1 u4 e4) (CutX.take dO_f CutX.none) _ (gx_h dO_o) rfl ⟨rfl, rfl⟩ ⟨Nat.le_of_ble_eq_true rfl, Nat.le_of_ble_eq_true rfl⟩ rfl ⟨Nat.zero_le _, Nat.zero_le _⟩ rfl (Nat.le_of_ble_eq_true rfl) dX9_fittest_34 (fun H locs hw => ?_)
      refine lv_icmp_ge (tgt := 42) C.1 C.2.1 dX9_fittest_37 (by decide) (fun hc => ?_) (fun hc => ?_)
      · replace hf := ifp hf hc
        refine r_iinc C hl 2 (v2 + 1) [(2, .int (v2 + 1)), (0, .ref (ad 99)), (1, .int v1)] rfl (iinc_e (by decide)) (by decide) rfl dX9_fittest_42 (fun ls hl => ?_)
        refine lv_goto (tgt := 22) C.1 C.2.1 dX9_fittest_45 (by decide) ?_
        exact hk22 d_ad v1 (v2 + 1) hf _ _ hw _ (lv_sub hl [1, 2, 0] rfl)
      · replace hf := ifn hf hc
        refine r_iload0 C hl 2 rfl dX9_fittest_40 ?_
        refine r_istore0 C hl [(1, .int v2), (0, .ref (ad 99)), (2, .int v2)] (by decide) rfl dX9_fittest_41 (fun ls hl => ?_)
        refine r_iinc C hl 2 (v2 + 1) [(2, .int (v2 + 1)), (1, .int v2), (0, .ref (ad 99))] rfl (iinc_e (by decide)) (by decide) rfl dX9_fittest_42 (fun ls hl => ?_)
        refine lv_goto (tgt := 22) C.1 C.2.1 dX9_fittest_45 (by decide) ?_
        exact hk22 d_ad v2 (v2 + 1) hf _ _ hw _ (lv_sub hl [2, 1, 0] rfl)
  have hL_22 : ∀ n : Nat, ∀ (d_ad : Pic) (v1 : Int32) (v2 : Int32), L_X9_fittest_22   n d_ad v1 v2 = some out → ∀ (H : Heap) (locs : List Loc), Wd G A s H locs (dO G ad d_ad dw ++ []) → ∀ ls : Array Slot, lv_has ls 3 [(0, .ref (ad 99)), (1, .int v1), (2, .int v2)] → W p l e ({ frames := 3, cells := 0, slots := 0, locals := 67 }) s m [.ref (ad 99)].toArray below meth c H locs 0 0 (MQ below (Ans G out.1 A (dO G ad out.2 dw ++ [])) [.ref (ad 99)].toArray s 0 0 A) (F0 m 22 ls []) := by
    intro  n
    induction n with
    | zero => intro d_ad v1 v2 hf; cases hf
    | succ n ih => exact hB_22 _ ih
  unfold f_X9_fittest at hf
  refine r_aload0 C hl 0 rfl dX9_fittest_0 ?_
  refine lv_iconst (v := 0) C.1 C.2.1 dX9_fittest_1 (by decide) ?_
  obtain ⟨d_ad1, e1, hf⟩ := bx hf
  refine r_put C hw _ (gx_h dO_o) 0 fp_X9_75 rfl rfl (Nat.le_of_ble_eq_true rfl) (dO G ad d_ad1 dw ++ []) (sx_h dO_o (dO_p0 e1)) dX9_fittest_2 (fun H locs hw => ?_)
  refine r_aload0 C hl 0 rfl dX9_fittest_5 ?_
  refine r_get C hw _ (gx_h dO_o) 19 fl_X9_225 rfl dX9_fittest_6 ?_
  refine lv_if_ne (tgt := 18) C.1 C.2.1 dX9_fittest_9 (by decide) (fun hc => ?_) (fun hc => ?_)
  · replace hf := ifn hf hc
    refine lv_iconst (v := 1) C.1 C.2.1 dX9_fittest_18 (by decide) ?_
    refine r_istore0 C hl [(1, .int 1), (0, .ref (ad 99))] (by decide) rfl dX9_fittest_19 (fun ls hl => ?_)
    refine lv_iconst (v := 2) C.1 C.2.1 dX9_fittest_20 (by decide) ?_
    refine r_istore0 C hl [(2, .int 2), (1, .int 1), (0, .ref (ad 99))] (by decide) rfl dX9_fittest_21 (fun ls hl => ?_)
    exact hL_22  FU d_ad1 1 2 hf _ _ hw _ (lv_sub hl [2, 1, 0] rfl)
  · replace hf := ifp hf hc
    refine r_aload0 C hl 0 rfl dX9_fittest_12 ?_
    refine lv_iconst (v := 1) C.1 C.2.1 dX9_fittest_13 (by decide) ?_
    obtain ⟨u5, e5, hf⟩ := bx hf
    refine r_callVi (ws' := (dO G ad u5.2 dw ++ [])) (As := [.int 1]) (rest := []) C hw hl.1 kX9_refused ml_X9_210 (c_X9_refused l G ad _ d_ad1 dw 1 u5 e5) (CutX.take dO_f CutX.none) _ (gx_h dO_o) rfl ⟨rfl, rfl⟩ ⟨Nat.le_of_ble_eq_true rfl, Nat.le_of_ble_eq_true rfl⟩ rfl ⟨Nat.zero_le _, Nat.zero_le _⟩ rfl (Nat.le_of_ble_eq_true rfl) dX9_fittest_14 (fun H locs hw => ?_)
    exact fin_i C hw (Option.some.inj hf) (fun o => o.1) (fun o => (dO G ad o.2 dw ++ [])) rfl rfl dX9_fittest_17
set_option maxHeartbeats 4000000 in
set_option maxRecDepth 100000 in
theorem c_X9_layPushes (l : Launch) (G : GG) (ad : Nat → Nat) (sz : Nat) (d_ad : Pic) (dw : Int64) (x1 x2 : Int32) (out : Int32 × Pic) (hf : f_X9_layPushes d_ad x1 x2 = some out) : Met l yX9_layPushes (.code yX9_layPushes cX9_layPushes 3 (some .boolean) :: BT) ({ frames := 6, cells := 0, slots := 0, locals := 135 }) (va_Pc [.ref (ad 99), .int x1, .int x2] (PreW G sz (dO G ad d_ad dw ++ []))) (Ans G out.1 (va_A (dO G ad d_ad dw ++ []) sz) (dO G ad out.2 dw ++ [])) 0 0 (va_A (dO G ad d_ad dw ++ []) sz) := by
  refine Met.into (by decide) (Nat.le_of_ble_eq_true rfl) ?_
  intro p e s m below meth c C hsz ls hl hw
  have hl : lv_has ls 3 [(0, .ref (ad 99)), (1, .int x1), (2, .int x2)] := hl
  clear hsz
  generalize va_A (dO G ad d_ad dw ++ []) sz = A at hw ⊢
  unfold f_X9_layPushes at hf
  refine r_aload0 C hl 0 rfl dX9_layPushes_0 ?_
  refine r_iload0 C hl 1 rfl dX9_layPushes_1 ?_
  obtain ⟨u1, e1, hf⟩ := bx hf
  refine r_callVi (ws' := (dO G ad d_ad dw ++ [])) (As := [.int x1]) (rest := []) C hw hl.1 kX9_isPage ml_X9_374 (c_X9_isPage l G ad _ d_ad dw x1 u1 e1) (CutX.take dO_f CutX.none) _ (gx_h dO_o) rfl ⟨rfl, rfl⟩ ⟨Nat.le_of_ble_eq_true rfl, Nat.le_of_ble_eq_true rfl⟩ rfl ⟨Nat.zero_le _, Nat.zero_le _⟩ rfl (Nat.le_of_ble_eq_true rfl) dX9_layPushes_2 (fun H locs hw => ?_)
  refine lv_if_eq (tgt := 16) C.1 C.2.1 dX9_layPushes_5 (by decide) (fun hc => ?_) (fun hc => ?_)
  · replace hf := ifp hf hc
    refine lv_iconst (v := 0) C.1 C.2.1 dX9_layPushes_16 (by decide) ?_
    exact fin_z C hw (by decide) (Option.some.inj hf) (fun o => o.1) (fun o => (dO G ad o.2 dw ++ [])) rfl rfl dX9_layPushes_17
  · replace hf := ifn hf hc
    refine r_aload0 C hl 0 rfl dX9_layPushes_8 ?_
    refine r_iload0 C hl 2 rfl dX9_layPushes_9 ?_
    obtain ⟨u2, e2, hf⟩ := bx hf
    refine r_callVi (ws' := (dO G ad d_ad dw ++ [])) (As := [.int x2]) (rest := []) C hw hl.1 kX9_isData ml_X9_271 (c_X9_isData l G ad _ d_ad dw x2 u2 e2) (CutX.take dO_f CutX.none) _ (gx_h dO_o) rfl ⟨rfl, rfl⟩ ⟨Nat.le_of_ble_eq_true rfl, Nat.le_of_ble_eq_true rfl⟩ rfl ⟨Nat.zero_le _, Nat.zero_le _⟩ rfl (Nat.le_of_ble_eq_true rfl) dX9_layPushes_10 (fun H locs hw => ?_)
    refine lv_if_ne (tgt := 18) C.1 C.2.1 dX9_layPushes_13 (by decide) (fun hc => ?_) (fun hc => ?_)
    · replace hf := ifn hf hc
      refine r_aload0 C hl 0 rfl dX9_layPushes_18 ?_
      obtain ⟨u3, e3, hf⟩ := bx hf
      refine r_callVv (ws' := (dO G ad u3 dw ++ [])) (As := []) (rest := []) C hw hl.1 kX9_keepsAside ml_X9_395 (c_X9_keepsAside l G ad _ d_ad dw u3 e3) (CutX.take dO_f CutX.none) _ (gx_h dO_o) rfl ⟨rfl, rfl⟩ ⟨Nat.le_of_ble_eq_true rfl, Nat.le_of_ble_eq_true rfl⟩ rfl ⟨Nat.zero_le _, Nat.zero_le _⟩ rfl (Nat.le_of_ble_eq_true rfl) dX9_layPushes_19 (fun H locs hw => ?_)
      refine r_aload0 C hl 0 rfl dX9_layPushes_22 ?_
      refine r_iload0 C hl 1 rfl dX9_layPushes_23 ?_
      refine r_iload0 C hl 2 rfl dX9_layPushes_24 ?_
      obtain ⟨u4, e4, hf⟩ := bx hf
      refine r_callVi (ws' := (dO G ad u4.2 dw ++ [])) (As := [.int x1, .int x2]) (rest := []) C hw hl.1 kX9_stores ml_X9_410 (c_X9_stores l G ad _ u3 dw x1 x2 u4 e4) (CutX.take dO_f CutX.none) _ (gx_h dO_o) rfl ⟨rfl, rfl⟩ ⟨Nat.le_of_ble_eq_true rfl, Nat.le_of_ble_eq_true rfl⟩ rfl ⟨Nat.zero_le _, Nat.zero_le _⟩ rfl (Nat.le_of_ble_eq_true rfl) dX9_layPushes_25 (fun H locs hw => ?_)
      refine lv_pop C.1 C.2.1 dX9_layPushes_28 rfl ?_
      refine r_aload0 C hl 0 rfl dX9_layPushes_29 ?_
      obtain ⟨u5, e5, hf⟩ := bx hf
      refine r_callVv (ws' := (dO G ad u5 dw ++ [])) (As := []) (rest := []) C hw hl.1 kX9_bringsBack ml_X9_401 (c_X9_bringsBack l G ad _ u4.2 dw u5 e5) (CutX.take dO_f CutX.none) _ (gx_h dO_o) rfl ⟨rfl, rfl⟩ ⟨Nat.le_of_ble_eq_true rfl, Nat.le_of_ble_eq_true rfl⟩ rfl ⟨Nat.zero_le _, Nat.zero_le _⟩ rfl (Nat.le_of_ble_eq_true rfl) dX9_layPushes_30 (fun H locs hw => ?_)
      refine lv_iconst (v := 1) C.1 C.2.1 dX9_layPushes_33 (by decide) ?_
      exact fin_z C hw (by decide) (Option.some.inj hf) (fun o => o.1) (fun o => (dO G ad o.2 dw ++ [])) rfl rfl dX9_layPushes_34
    · replace hf := ifp hf hc
      refine lv_iconst (v := 0) C.1 C.2.1 dX9_layPushes_16 (by decide) ?_
      exact fin_z C hw (by decide) (Option.some.inj hf) (fun o => o.1) (fun o => (dO G ad o.2 dw ++ [])) rfl rfl dX9_layPushes_17
set_option maxHeartbeats 4000000 in
set_option maxRecDepth 100000 in
theorem c_X9_pushes (l : Launch) (G : GG) (ad : Nat → Nat) (sz : Nat) (d_ad : Pic) (dw : Int64) (x1 x2 : Int32) (out : Int32 × Pic) (hf : f_X9_pushes d_ad x1 x2 = some out) : Met l yX9_pushes (.code yX9_pushes cX9_pushes 3 (some .int) :: BT) ({ frames := 7, cells := 0, slots := 0, locals := 157 }) (va_Pc [.ref (ad 99), .int x1, .int x2] (PreW G sz (dO G ad d_ad dw ++ []))) (Ans G out.1 (va_A (dO G ad d_ad dw ++ []) sz) (dO G ad out.2 dw ++ [])) 0 0 (va_A (dO G ad d_ad dw ++ []) sz) := by
  refine Met.into (by decide) (Nat.le_of_ble_eq_true rfl) ?_
  intro p e s m below meth c C hsz ls hl hw
  have hl : lv_has ls 3 [(0, .ref (ad 99)), (1, .int x1), (2, .int x2)] := hl
  clear hsz
  generalize va_A (dO G ad d_ad dw ++ []) sz = A at hw ⊢
  unfold f_X9_pushes at hf
  refine r_aload0 C hl 0 rfl dX9_pushes_0 ?_
  refine lv_iconst (v := 0) C.1 C.2.1 dX9_pushes_1 (by decide) ?_
  obtain ⟨d_ad1, e1, hf⟩ := bx hf
  refine r_put C hw _ (gx_h dO_o) 0 fp_X9_75 rfl rfl (Nat.le_of_ble_eq_true rfl) (dO G ad d_ad1 dw ++ []) (sx_h dO_o (dO_p0 e1)) dX9_pushes_2 (fun H locs hw => ?_)
  refine r_aload0 C hl 0 rfl dX9_pushes_5 ?_
  refine r_iload0 C hl 1 rfl dX9_pushes_6 ?_
  refine r_iload0 C hl 2 rfl dX9_pushes_7 ?_
  obtain ⟨u2, e2, hf⟩ := bx hf
  refine r_callVi (ws' := (dO G ad u2.2 dw ++ [])) (As := [.int x1, .int x2]) (rest := []) C hw hl.1 kX9_layPushes ml_X9_413 (c_X9_layPushes l G ad _ d_ad1 dw x1 x2 u2 e2) (CutX.take dO_f CutX.none) _ (gx_h dO_o) rfl ⟨rfl, rfl⟩ ⟨Nat.le_of_ble_eq_true rfl, Nat.le_of_ble_eq_true rfl⟩ rfl ⟨Nat.zero_le _, Nat.zero_le _⟩ rfl (Nat.le_of_ble_eq_true rfl) dX9_pushes_8 (fun H locs hw => ?_)
  refine lv_if_eq (tgt := 25) C.1 C.2.1 dX9_pushes_11 (by decide) (fun hc => ?_) (fun hc => ?_)
  · replace hf := ifp hf hc
    refine r_aload0 C hl 0 rfl dX9_pushes_25 ?_
    refine lv_iconst (v := 1) C.1 C.2.1 dX9_pushes_26 (by decide) ?_
    obtain ⟨u3, e3, hf⟩ := bx hf
    refine r_callVi (ws' := (dO G ad u3.2 dw ++ [])) (As := [.int 1]) (rest := []) C hw hl.1 kX9_refused ml_X9_210 (c_X9_refused l G ad _ u2.2 dw 1 u3 e3) (CutX.take dO_f CutX.none) _ (gx_h dO_o) rfl ⟨rfl, rfl⟩ ⟨Nat.le_of_ble_eq_true rfl, Nat.le_of_ble_eq_true rfl⟩ rfl ⟨Nat.zero_le _, Nat.zero_le _⟩ rfl (Nat.le_of_ble_eq_true rfl) dX9_pushes_27 (fun H locs hw => ?_)
    exact fin_i C hw (Option.some.inj hf) (fun o => o.1) (fun o => (dO G ad o.2 dw ++ [])) rfl rfl dX9_pushes_30
  · replace hf := ifn hf hc
    refine r_aload0 C hl 0 rfl dX9_pushes_14 ?_
    refine r_aload0 C hl 0 rfl dX9_pushes_15 ?_
    refine r_get C hw _ (gx_h dO_o) 43 fl_X9_343 rfl dX9_pushes_16 ?_
    obtain ⟨u4, e4, hf⟩ := bx hf
    refine r_callVi (ws' := (dO G ad u4.2 dw ++ [])) (As := [.int (gS u2.2 43)]) (rest := []) C hw hl.1 kX9_good ml_X9_222 (c_X9_good l G ad _ u2.2 dw (gS u2.2 43) u4 e4) (CutX.take dO_f CutX.none) _ (gx_h dO_o) rfl ⟨rfl, rfl⟩ ⟨Nat.le_of_ble_eq_true rfl, Nat.le_of_ble_eq_true rfl⟩ rfl ⟨Nat.zero_le _, Nat.zero_le _⟩ rfl (Nat.le_of_ble_eq_true rfl) dX9_pushes_19 (fun H locs hw => ?_)
    refine lv_goto (tgt := 30) C.1 C.2.1 dX9_pushes_22 (by decide) ?_
    exact fin_i C hw (Option.some.inj hf) (fun o => o.1) (fun o => (dO G ad o.2 dw ++ [])) rfl rfl dX9_pushes_30
set_option maxHeartbeats 4000000 in
set_option maxRecDepth 100000 in
theorem c_X9_pushed (l : Launch) (G : GG) (ad : Nat → Nat) (sz : Nat) (d_ad : Pic) (dw : Int64) (x1 x2 x3 : Int32) (out : Int32 × Pic) (hf : f_X9_pushed d_ad x1 x2 x3 = some out) : Met l yX9_pushed (.code yX9_pushed cX9_pushed 4 (some .int) :: BT) ({ frames := 7, cells := 0, slots := 0, locals := 157 }) (va_Pc [.ref (ad 99), .int x1, .int x2, .int x3] (PreW G sz (dO G ad d_ad dw ++ []))) (Ans G out.1 (va_A (dO G ad d_ad dw ++ []) sz) (dO G ad out.2 dw ++ [])) 0 0 (va_A (dO G ad d_ad dw ++ []) sz) := by
  refine Met.into (by decide) (Nat.le_of_ble_eq_true rfl) ?_
  intro p e s m below meth c C hsz ls hl hw
  have hl : lv_has ls 4 [(0, .ref (ad 99)), (1, .int x1), (2, .int x2), (3, .int x3)] := hl
  clear hsz
  generalize va_A (dO G ad d_ad dw ++ []) sz = A at hw ⊢
  have hB_26 : ∀ (d_ad : Pic), b_X9_pushed_26 x1 x2 x3  d_ad = some out → ∀ (H : Heap) (locs : List Loc), Wd G A s H locs (dO G ad d_ad dw ++ []) → ∀ ls : Array Slot, lv_has ls 4 [(0, .ref (ad 99))] → W p l e ({ frames := 7, cells := 0, slots := 0, locals := 157 }) s m [.ref (ad 99), .int x1, .int x2, .int x3].toArray below meth c H locs 0 0 (MQ below (Ans G out.1 A (dO G ad out.2 dw ++ [])) [.ref (ad 99), .int x1, .int x2, .int x3].toArray s 0 0 A) (F0 m 26 ls []) := by
    intro d_ad hf H locs hw ls hl
    unfold b_X9_pushed_26 at hf
    refine r_aload0 C hl 0 rfl dX9_pushed_26 ?_
    refine lv_iconst (v := 1) C.1 C.2.1 dX9_pushed_27 (by decide) ?_
    obtain ⟨u3, e3, hf⟩ := bx hf
    refine r_callVi (ws' := (dO G ad u3.2 dw ++ [])) (As := [.int 1]) (rest := []) C hw hl.1 kX9_refused ml_X9_210 (c_X9_refused l G ad _ d_ad dw 1 u3 e3) (CutX.take dO_f CutX.none) _ (gx_h dO_o) rfl ⟨rfl, rfl⟩ ⟨Nat.le_of_ble_eq_true rfl, Nat.le_of_ble_eq_true rfl⟩ rfl ⟨Nat.zero_le _, Nat.zero_le _⟩ rfl (Nat.le_of_ble_eq_true rfl) dX9_pushed_28 (fun H locs hw => ?_)
    exact fin_i C hw (Option.some.inj hf) (fun o => o.1) (fun o => (dO G ad o.2 dw ++ [])) rfl rfl dX9_pushed_31
  unfold f_X9_pushed at hf
  refine r_aload0 C hl 0 rfl dX9_pushed_0 ?_
  refine lv_iconst (v := 0) C.1 C.2.1 dX9_pushed_1 (by decide) ?_
  obtain ⟨d_ad1, e1, hf⟩ := bx hf
  refine r_put C hw _ (gx_h dO_o) 0 fp_X9_75 rfl rfl (Nat.le_of_ble_eq_true rfl) (dO G ad d_ad1 dw ++ []) (sx_h dO_o (dO_p0 e1)) dX9_pushed_2 (fun H locs hw => ?_)
  refine r_aload0 C hl 0 rfl dX9_pushed_5 ?_
  refine r_iload0 C hl 1 rfl dX9_pushed_6 ?_
  refine r_iload0 C hl 2 rfl dX9_pushed_7 ?_
  obtain ⟨u2, e2, hf⟩ := bx hf
  refine r_callVi (ws' := (dO G ad u2.2 dw ++ [])) (As := [.int x1, .int x2]) (rest := []) C hw hl.1 kX9_layPushes ml_X9_413 (c_X9_layPushes l G ad _ d_ad1 dw x1 x2 u2 e2) (CutX.take dO_f CutX.none) _ (gx_h dO_o) rfl ⟨rfl, rfl⟩ ⟨Nat.le_of_ble_eq_true rfl, Nat.le_of_ble_eq_true rfl⟩ rfl ⟨Nat.zero_le _, Nat.zero_le _⟩ rfl (Nat.le_of_ble_eq_true rfl) dX9_pushed_8 (fun H locs hw => ?_)
  refine lv_if_eq (tgt := 26) C.1 C.2.1 dX9_pushed_11 (by decide) (fun hc => ?_) (fun hc => ?_)
  · replace hf := ifp hf hc
    exact hB_26  u2.2 hf _ _ hw _ (lv_sub hl [0] rfl)
  · replace hf := ifn hf hc
    refine r_iload0 C hl 3 rfl dX9_pushed_14 ?_
    refine lv_if_lt (tgt := 26) C.1 C.2.1 dX9_pushed_15 (by decide) (fun hc => ?_) (fun hc => ?_)
    · replace hf := ifp hf hc
      exact hB_26  u2.2 hf _ _ hw _ (lv_sub hl [0] rfl)
    · replace hf := ifn hf hc
      refine r_iload0 C hl 3 rfl dX9_pushed_18 ?_
      refine r_aload0 C hl 0 rfl dX9_pushed_19 ?_
      refine r_get C hw _ (gx_h dO_o) 43 fl_X9_343 rfl dX9_pushed_20 ?_
      refine lv_icmp_lt (tgt := 32) C.1 C.2.1 dX9_pushed_23 (by decide) (fun hc => ?_) (fun hc => ?_)
      · replace hf := ifp hf hc
        refine r_aload0 C hl 0 rfl dX9_pushed_32 ?_
        refine r_aload0 C hl 0 rfl dX9_pushed_33 ?_
        refine r_get C hw _ (gx_h dO_o) 42 fl_X9_72 rfl dX9_pushed_34 ?_
        refine r_iload0 C hl 3 rfl dX9_pushed_37 ?_
        obtain ⟨v4_, e4, hf⟩ := bx hf
        refine r_iald C hw _ (gx_h dO_g42) e4 dX9_pushed_38 ?_
        obtain ⟨u5, e5, hf⟩ := bx hf
        refine r_callVi (ws' := (dO G ad u5.2 dw ++ [])) (As := [.int v4_]) (rest := []) C hw hl.1 kX9_good ml_X9_222 (c_X9_good l G ad _ u2.2 dw v4_ u5 e5) (CutX.take dO_f CutX.none) _ (gx_h dO_o) rfl ⟨rfl, rfl⟩ ⟨Nat.le_of_ble_eq_true rfl, Nat.le_of_ble_eq_true rfl⟩ rfl ⟨Nat.zero_le _, Nat.zero_le _⟩ rfl (Nat.le_of_ble_eq_true rfl) dX9_pushed_39 (fun H locs hw => ?_)
        exact fin_i C hw (Option.some.inj hf) (fun o => o.1) (fun o => (dO G ad o.2 dw ++ [])) rfl rfl dX9_pushed_42
      · replace hf := ifn hf hc
        exact hB_26  u2.2 hf _ _ hw _ (lv_sub hl [0] rfl)
set_option maxHeartbeats 4000000 in
set_option maxRecDepth 100000 in
theorem c_X9_does (l : Launch) (G : GG) (ad : Nat → Nat) (sz : Nat) (d_ad : Pic) (dw : Int64) (x1 : Int32) (out : Pic) (hf : f_X9_does d_ad x1 = some out) : Met l yX9_does (.code yX9_does cX9_does 3 none :: BT) ({ frames := 6, cells := 0, slots := 0, locals := 135 }) (va_Pc [.ref (ad 99), .int x1] (PreW G sz (dO G ad d_ad dw ++ []))) (Don G (va_A (dO G ad d_ad dw ++ []) sz) (dO G ad out dw ++ [])) 0 0 (va_A (dO G ad d_ad dw ++ []) sz) := by
  refine Met.into (by decide) (Nat.le_of_ble_eq_true rfl) ?_
  intro p e s m below meth c C hsz ls hl hw
  have hl : lv_has ls 3 [(0, .ref (ad 99)), (1, .int x1)] := hl
  clear hsz
  generalize va_A (dO G ad d_ad dw ++ []) sz = A at hw ⊢
  unfold f_X9_does at hf
  refine r_aload0 C hl 0 rfl dX9_does_0 ?_
  refine r_get C hw _ (gx_h dO_o) 13 fl_X9_17 rfl dX9_does_1 ?_
  refine r_iload0 C hl 1 rfl dX9_does_4 ?_
  obtain ⟨v1_, e1, hf⟩ := bx hf
  refine r_iald C hw _ (gx_h dO_g13) e1 dX9_does_5 ?_
  refine r_istore0 C hl [(2, .int v1_), (0, .ref (ad 99)), (1, .int x1)] (by decide) rfl dX9_does_6 (fun ls hl => ?_)
  refine r_aload0 C hl 1 rfl dX9_does_7 ?_
  refine r_get C hw _ (gx_h dO_o) 12 fl_X9_13 rfl dX9_does_8 ?_
  refine r_iload0 C hl 2 rfl dX9_does_11 ?_
  obtain ⟨v2_, e2, hf⟩ := bx hf
  refine r_iald C hw _ (gx_h dO_g12) e2 dX9_does_12 ?_
  refine lv_if_ne (tgt := 31) C.1 C.2.1 dX9_does_13 (by decide) (fun hc => ?_) (fun hc => ?_)
  · replace hf := ifn hf hc
    refine r_aload0 C hl 1 rfl dX9_does_31 ?_
    refine r_get C hw _ (gx_h dO_o) 12 fl_X9_13 rfl dX9_does_32 ?_
    refine r_iload0 C hl 2 rfl dX9_does_35 ?_
    obtain ⟨v3_, e3, hf⟩ := bx hf
    refine r_iald C hw _ (gx_h dO_g12) e3 dX9_does_36 ?_
    refine lv_iconst (v := 1) C.1 C.2.1 dX9_does_37 (by decide) ?_
    refine lv_icmp_ne (tgt := 49) C.1 C.2.1 dX9_does_38 (by decide) (fun hc => ?_) (fun hc => ?_)
    · replace hf := ifn hf hc
      refine r_aload0 C hl 1 rfl dX9_does_49 ?_
      refine r_iload0 C hl 0 rfl dX9_does_50 ?_
      obtain ⟨u4, e4, hf⟩ := bx hf
      refine r_callVv (ws' := (dO G ad u4 dw ++ [])) (As := [.int v1_]) (rest := []) C hw hl.1 kX9_dropsOne ml_X9_368 (c_X9_dropsOne l G ad _ d_ad dw v1_ u4 e4) (CutX.take dO_f CutX.none) _ (gx_h dO_o) rfl ⟨rfl, rfl⟩ ⟨Nat.le_of_ble_eq_true rfl, Nat.le_of_ble_eq_true rfl⟩ rfl ⟨Nat.zero_le _, Nat.zero_le _⟩ rfl (Nat.le_of_ble_eq_true rfl) dX9_does_51 (fun H locs hw => ?_)
      exact fin_v C hw (Option.some.inj hf) (fun o => (dO G ad o dw ++ [])) rfl dX9_does_54
    · replace hf := ifp hf hc
      refine r_aload0 C hl 1 rfl dX9_does_41 ?_
      refine r_iload0 C hl 0 rfl dX9_does_42 ?_
      obtain ⟨u5, e5, hf⟩ := bx hf
      refine r_callVv (ws' := (dO G ad u5 dw ++ [])) (As := [.int v1_]) (rest := []) C hw hl.1 kX9_loads ml_X9_417 (c_X9_loads l G ad _ d_ad dw v1_ u5 e5) (CutX.take dO_f CutX.none) _ (gx_h dO_o) rfl ⟨rfl, rfl⟩ ⟨Nat.le_of_ble_eq_true rfl, Nat.le_of_ble_eq_true rfl⟩ rfl ⟨Nat.zero_le _, Nat.zero_le _⟩ rfl (Nat.le_of_ble_eq_true rfl) dX9_does_43 (fun H locs hw => ?_)
      refine lv_goto (tgt := 54) C.1 C.2.1 dX9_does_46 (by decide) ?_
      exact fin_v C hw (Option.some.inj hf) (fun o => (dO G ad o dw ++ [])) rfl dX9_does_54
  · replace hf := ifp hf hc
    refine r_aload0 C hl 1 rfl dX9_does_16 ?_
    refine r_iload0 C hl 0 rfl dX9_does_17 ?_
    refine r_aload0 C hl 1 rfl dX9_does_18 ?_
    refine r_get C hw _ (gx_h dO_o) 14 fl_X9_20 rfl dX9_does_19 ?_
    refine r_iload0 C hl 2 rfl dX9_does_22 ?_
    obtain ⟨v6_, e6, hf⟩ := bx hf
    refine r_iald C hw _ (gx_h dO_g14) e6 dX9_does_23 ?_
    obtain ⟨u7, e7, hf⟩ := bx hf
    refine r_callVi (ws' := (dO G ad u7.2 dw ++ [])) (As := [.int v1_, .int v6_]) (rest := []) C hw hl.1 kX9_stores ml_X9_410 (c_X9_stores l G ad _ d_ad dw v1_ v6_ u7 e7) (CutX.take dO_f CutX.none) _ (gx_h dO_o) rfl ⟨rfl, rfl⟩ ⟨Nat.le_of_ble_eq_true rfl, Nat.le_of_ble_eq_true rfl⟩ rfl ⟨Nat.zero_le _, Nat.zero_le _⟩ rfl (Nat.le_of_ble_eq_true rfl) dX9_does_24 (fun H locs hw => ?_)
    refine lv_pop C.1 C.2.1 dX9_does_27 rfl ?_
    refine lv_goto (tgt := 54) C.1 C.2.1 dX9_does_28 (by decide) ?_
    exact fin_v C hw (Option.some.inj hf) (fun o => (dO G ad o dw ++ [])) rfl dX9_does_54
set_option maxHeartbeats 4000000 in
set_option maxRecDepth 100000 in
theorem c_X9_foretells (l : Launch) (G : GG) (ad : Nat → Nat) (sz : Nat) (d_ad : Pic) (dw : Int64) (x1 x2 x3 : Int32) (out : Int32 × Pic) (hf : f_X9_foretells d_ad x1 x2 x3 = some out) : Met l yX9_foretells (.code yX9_foretells cX9_foretells 6 (some .int) :: BT) ({ frames := 7, cells := 0, slots := 0, locals := 157 }) (va_Pc [.ref (ad 99), .int x1, .int x2, .int x3] (PreW G sz (dO G ad d_ad dw ++ []))) (Ans G out.1 (va_A (dO G ad d_ad dw ++ []) sz) (dO G ad out.2 dw ++ [])) 0 0 (va_A (dO G ad d_ad dw ++ []) sz) := by
  refine Met.into (by decide) (Nat.le_of_ble_eq_true rfl) ?_
  intro p e s m below meth c C hsz ls hl hw
  have hl : lv_has ls 6 [(0, .ref (ad 99)), (1, .int x1), (2, .int x2), (3, .int x3)] := hl
  clear hsz
  generalize va_A (dO G ad d_ad dw ++ []) sz = A at hw ⊢
  have hB_29 : ∀ (k29 : Pic → Int32 → Int32 → Option (Int32 × Pic)) (hk29 : ∀ (d_ad : Pic) (v4 : Int32) (v5 : Int32), k29 d_ad v4 v5 = some out → ∀ (H : Heap) (locs : List Loc), Wd G A s H locs (dO G ad d_ad dw ++ []) → ∀ ls : Array Slot, lv_has ls 6 [(0, .ref (ad 99)), (3, .int x3), (4, .int v4), (5, .int v5)] → W p l e ({ frames := 7, cells := 0, slots := 0, locals := 157 }) s m [.ref (ad 99), .int x1, .int x2, .int x3].toArray below meth c H locs 0 0 (MQ below (Ans G out.1 A (dO G ad out.2 dw ++ [])) [.ref (ad 99), .int x1, .int x2, .int x3].toArray s 0 0 A) (F0 m 29 ls [])), ∀ (d_ad : Pic) (v4 : Int32) (v5 : Int32), b_X9_foretells_29 x1 x2 x3 k29 d_ad v4 v5 = some out → ∀ (H : Heap) (locs : List Loc), Wd G A s H locs (dO G ad d_ad dw ++ []) → ∀ ls : Array Slot, lv_has ls 6 [(0, .ref (ad 99)), (3, .int x3), (4, .int v4), (5, .int v5)] → W p l e ({ frames := 7, cells := 0, slots := 0, locals := 157 }) s m [.ref (ad 99), .int x1, .int x2, .int x3].toArray below meth c H locs 0 0 (MQ below (Ans G out.1 A (dO G ad out.2 dw ++ [])) [.ref (ad 99), .int x1, .int x2, .int x3].toArray s 0 0 A) (F0 m 29 ls []) := by
    intro k29 hk29 d_ad v4 v5 hf H locs hw ls hl
    unfold b_X9_foretells_29 at hf
    refine r_iload C hl 3 rfl dX9_foretells_29 ?_
    refine r_aload0 C hl 0 rfl dX9_foretells_31 ?_
    refine r_get C hw _ (gx_h dO_o) 6 fl_X9_233 rfl dX9_foretells_32 ?_
    refine lv_icmp_ge (tgt := 50) C.1 C.2.1 dX9_foretells_35 (by decide) (fun hc => ?_) (fun hc => ?_)
    · replace hf := ifp hf hc
      refine r_aload0 C hl 0 rfl dX9_foretells_50 ?_
      refine r_get C hw _ (gx_h dO_o) 20 fl_X9_35 rfl dX9_foretells_51 ?_
      refine lv_iconst (v := 1) C.1 C.2.1 dX9_foretells_54 (by decide) ?_
      refine r_iload0 C hl 1 rfl dX9_foretells_55 ?_
      refine lv_iadd C.1 C.2.1 dX9_foretells_56 ?_
      obtain ⟨v5_, e5, hf⟩ := bx hf
      refine r_iald C hw _ (gx_h dO_g20) e5 dX9_foretells_57 ?_
      refine r_istore C hl [(5, .int v5_), (0, .ref (ad 99)), (3, .int x3), (4, .int v4)] (by decide) rfl dX9_foretells_58 (fun ls hl => ?_)
      refine r_aload0 C hl 1 rfl dX9_foretells_60 ?_
      refine r_iload C hl 3 rfl dX9_foretells_61 ?_
      obtain ⟨d_ad6, e6, hf⟩ := bx hf
      refine r_put C hw _ (gx_h dO_o) 3 fp_X9_229 rfl rfl (Nat.le_of_ble_eq_true rfl) (dO G ad d_ad6 dw ++ []) (sx_h dO_o (dO_p3 e6)) dX9_foretells_63 (fun H locs hw => ?_)
      refine r_aload0 C hl 1 rfl dX9_foretells_66 ?_
      obtain ⟨u7, e7, hf⟩ := bx hf
      refine r_callVv (ws' := (dO G ad u7 dw ++ [])) (As := []) (rest := []) C hw hl.1 kX9_bringsBack ml_X9_401 (c_X9_bringsBack l G ad _ d_ad6 dw u7 e7) (CutX.take dO_f CutX.none) _ (gx_h dO_o) rfl ⟨rfl, rfl⟩ ⟨Nat.le_of_ble_eq_true rfl, Nat.le_of_ble_eq_true rfl⟩ rfl ⟨Nat.zero_le _, Nat.zero_le _⟩ rfl (Nat.le_of_ble_eq_true rfl) dX9_foretells_67 (fun H locs hw => ?_)
      refine r_iload C hl 0 rfl dX9_foretells_70 ?_
      exact fin_i C hw (Option.some.inj hf) (fun o => o.1) (fun o => (dO G ad o.2 dw ++ [])) rfl rfl dX9_foretells_72
    · replace hf := ifn hf hc
      refine r_aload0 C hl 0 rfl dX9_foretells_38 ?_
      refine r_iload C hl 3 rfl dX9_foretells_39 ?_
      obtain ⟨u8, e8, hf⟩ := bx hf
      refine r_callVv (ws' := (dO G ad u8 dw ++ [])) (As := [.int v5]) (rest := []) C hw hl.1 kX9_does ml_X9_420 (c_X9_does l G ad _ d_ad dw v5 u8 e8) (CutX.take dO_f CutX.none) _ (gx_h dO_o) rfl ⟨rfl, rfl⟩ ⟨Nat.le_of_ble_eq_true rfl, Nat.le_of_ble_eq_true rfl⟩ rfl ⟨Nat.zero_le _, Nat.zero_le _⟩ rfl (Nat.le_of_ble_eq_true rfl) dX9_foretells_41 (fun H locs hw => ?_)
      refine r_iinc C hl 3 (v5 + 1) [(5, .int (v5 + 1)), (0, .ref (ad 99)), (3, .int x3), (4, .int v4)] rfl (iinc_e (by decide)) (by decide) rfl dX9_foretells_44 (fun ls hl => ?_)
      refine lv_goto (tgt := 29) C.1 C.2.1 dX9_foretells_47 (by decide) ?_
      exact hk29 u8 v4 (v5 + 1) hf _ _ hw _ (lv_sub hl [1, 2, 3, 0] rfl)
  have hL_29 : ∀ n : Nat, ∀ (d_ad : Pic) (v4 : Int32) (v5 : Int32), L_X9_foretells_29 x1 x2 x3  n d_ad v4 v5 = some out → ∀ (H : Heap) (locs : List Loc), Wd G A s H locs (dO G ad d_ad dw ++ []) → ∀ ls : Array Slot, lv_has ls 6 [(0, .ref (ad 99)), (3, .int x3), (4, .int v4), (5, .int v5)] → W p l e ({ frames := 7, cells := 0, slots := 0, locals := 157 }) s m [.ref (ad 99), .int x1, .int x2, .int x3].toArray below meth c H locs 0 0 (MQ below (Ans G out.1 A (dO G ad out.2 dw ++ [])) [.ref (ad 99), .int x1, .int x2, .int x3].toArray s 0 0 A) (F0 m 29 ls []) := by
    intro  n
    induction n with
    | zero => intro d_ad v4 v5 hf; cases hf
    | succ n ih => exact hB_29 _ ih
  unfold f_X9_foretells at hf
  refine r_aload0 C hl 0 rfl dX9_foretells_0 ?_
  refine r_get C hw _ (gx_h dO_o) 3 fl_X9_229 rfl dX9_foretells_1 ?_
  refine r_istore C hl [(4, .int (gS d_ad 3)), (0, .ref (ad 99)), (1, .int x1), (2, .int x2), (3, .int x3)] (by decide) rfl dX9_foretells_4 (fun ls hl => ?_)
  refine r_aload0 C hl 1 rfl dX9_foretells_6 ?_
  obtain ⟨u1, e1, hf⟩ := bx hf
  refine r_callVv (ws' := (dO G ad u1 dw ++ [])) (As := []) (rest := []) C hw hl.1 kX9_keepsAside ml_X9_395 (c_X9_keepsAside l G ad _ d_ad dw u1 e1) (CutX.take dO_f CutX.none) _ (gx_h dO_o) rfl ⟨rfl, rfl⟩ ⟨Nat.le_of_ble_eq_true rfl, Nat.le_of_ble_eq_true rfl⟩ rfl ⟨Nat.zero_le _, Nat.zero_le _⟩ rfl (Nat.le_of_ble_eq_true rfl) dX9_foretells_7 (fun H locs hw => ?_)
  refine r_aload0 C hl 1 rfl dX9_foretells_10 ?_
  obtain ⟨u2, e2, hf⟩ := bx hf
  refine r_callVv (ws' := (dO G ad u2 dw ++ [])) (As := []) (rest := []) C hw hl.1 kX9_clears ml_X9_236 (c_X9_clears l G ad _ u1 dw u2 e2) (CutX.take dO_f CutX.none) _ (gx_h dO_o) rfl ⟨rfl, rfl⟩ ⟨Nat.le_of_ble_eq_true rfl, Nat.le_of_ble_eq_true rfl⟩ rfl ⟨Nat.zero_le _, Nat.zero_le _⟩ rfl (Nat.le_of_ble_eq_true rfl) dX9_foretells_11 (fun H locs hw => ?_)
  refine r_aload0 C hl 1 rfl dX9_foretells_14 ?_
  refine r_get C hw _ (gx_h dO_o) 20 fl_X9_35 rfl dX9_foretells_15 ?_
  refine lv_iconst (v := 0) C.1 C.2.1 dX9_foretells_18 (by decide) ?_
  refine r_iload0 C hl 2 rfl dX9_foretells_19 ?_
  obtain ⟨d_ad3, e3, hf⟩ := bx hf
  refine r_iast C hw _ (gx_h dO_g20) e3 (dO G ad d_ad3 dw ++ []) (fun h => (sx_h dO_g20 (dO_s20 h))) dX9_foretells_20 (fun H locs hw => ?_)
  refine r_aload0 C hl 1 rfl dX9_foretells_21 ?_
  refine r_iload0 C hl 3 rfl dX9_foretells_22 ?_
  obtain ⟨d_ad4, e4, hf⟩ := bx hf
  refine r_put C hw _ (gx_h dO_o) 3 fp_X9_229 rfl rfl (Nat.le_of_ble_eq_true rfl) (dO G ad d_ad4 dw ++ []) (sx_h dO_o (dO_p3 e4)) dX9_foretells_23 (fun H locs hw => ?_)
  refine lv_iconst (v := 0) C.1 C.2.1 dX9_foretells_26 (by decide) ?_
  refine r_istore C hl [(5, .int 0), (4, .int (gS d_ad 3)), (0, .ref (ad 99)), (1, .int x1), (2, .int x2), (3, .int x3)] (by decide) rfl dX9_foretells_27 (fun ls hl => ?_)
  exact hL_29  FU d_ad4 (gS d_ad 3) 0 hf _ _ hw _ (lv_sub hl [2, 5, 1, 0] rfl)
set_option maxHeartbeats 4000000 in
set_option maxRecDepth 100000 in
theorem c_X9_foretold (l : Launch) (G : GG) (ad : Nat → Nat) (sz : Nat) (d_ad : Pic) (dw : Int64) (x1 x2 x3 : Int32) (out : Int32 × Pic) (hf : f_X9_foretold d_ad x1 x2 x3 = some out) : Met l yX9_foretold (.code yX9_foretold cX9_foretold 4 (some .int) :: BT) ({ frames := 8, cells := 0, slots := 0, locals := 182 }) (va_Pc [.ref (ad 99), .int x1, .int x2, .int x3] (PreW G sz (dO G ad d_ad dw ++ []))) (Ans G out.1 (va_A (dO G ad d_ad dw ++ []) sz) (dO G ad out.2 dw ++ [])) 0 0 (va_A (dO G ad d_ad dw ++ []) sz) := by
  refine Met.into (by decide) (Nat.le_of_ble_eq_true rfl) ?_
  intro p e s m below meth c C hsz ls hl hw
  have hl : lv_has ls 4 [(0, .ref (ad 99)), (1, .int x1), (2, .int x2), (3, .int x3)] := hl
  clear hsz
  generalize va_A (dO G ad d_ad dw ++ []) sz = A at hw ⊢
  have hB_21 : ∀ (d_ad : Pic), b_X9_foretold_21 x1 x2 x3  d_ad = some out → ∀ (H : Heap) (locs : List Loc), Wd G A s H locs (dO G ad d_ad dw ++ []) → ∀ ls : Array Slot, lv_has ls 4 [(0, .ref (ad 99))] → W p l e ({ frames := 8, cells := 0, slots := 0, locals := 182 }) s m [.ref (ad 99), .int x1, .int x2, .int x3].toArray below meth c H locs 0 0 (MQ below (Ans G out.1 A (dO G ad out.2 dw ++ [])) [.ref (ad 99), .int x1, .int x2, .int x3].toArray s 0 0 A) (F0 m 21 ls []) := by
    intro d_ad hf H locs hw ls hl
    unfold b_X9_foretold_21 at hf
    refine r_aload0 C hl 0 rfl dX9_foretold_21 ?_
    refine lv_iconst (v := 1) C.1 C.2.1 dX9_foretold_22 (by decide) ?_
    obtain ⟨u2, e2, hf⟩ := bx hf
    refine r_callVi (ws' := (dO G ad u2.2 dw ++ [])) (As := [.int 1]) (rest := []) C hw hl.1 kX9_refused ml_X9_210 (c_X9_refused l G ad _ d_ad dw 1 u2 e2) (CutX.take dO_f CutX.none) _ (gx_h dO_o) rfl ⟨rfl, rfl⟩ ⟨Nat.le_of_ble_eq_true rfl, Nat.le_of_ble_eq_true rfl⟩ rfl ⟨Nat.zero_le _, Nat.zero_le _⟩ rfl (Nat.le_of_ble_eq_true rfl) dX9_foretold_23 (fun H locs hw => ?_)
    exact fin_i C hw (Option.some.inj hf) (fun o => o.1) (fun o => (dO G ad o.2 dw ++ [])) rfl rfl dX9_foretold_26
  have hB_46 : ∀ (d_ad : Pic), b_X9_foretold_46 x1 x2 x3  d_ad = some out → ∀ (H : Heap) (locs : List Loc), Wd G A s H locs (dO G ad d_ad dw ++ []) → ∀ ls : Array Slot, lv_has ls 4 [(0, .ref (ad 99))] → W p l e ({ frames := 8, cells := 0, slots := 0, locals := 182 }) s m [.ref (ad 99), .int x1, .int x2, .int x3].toArray below meth c H locs 0 0 (MQ below (Ans G out.1 A (dO G ad out.2 dw ++ [])) [.ref (ad 99), .int x1, .int x2, .int x3].toArray s 0 0 A) (F0 m 46 ls []) := by
    intro d_ad hf H locs hw ls hl
    unfold b_X9_foretold_46 at hf
    refine r_aload0 C hl 0 rfl dX9_foretold_46 ?_
    refine lv_iconst (v := 2) C.1 C.2.1 dX9_foretold_47 (by decide) ?_
    obtain ⟨u5, e5, hf⟩ := bx hf
    refine r_callVi (ws' := (dO G ad u5.2 dw ++ [])) (As := [.int 2]) (rest := []) C hw hl.1 kX9_refused ml_X9_210 (c_X9_refused l G ad _ d_ad dw 2 u5 e5) (CutX.take dO_f CutX.none) _ (gx_h dO_o) rfl ⟨rfl, rfl⟩ ⟨Nat.le_of_ble_eq_true rfl, Nat.le_of_ble_eq_true rfl⟩ rfl ⟨Nat.zero_le _, Nat.zero_le _⟩ rfl (Nat.le_of_ble_eq_true rfl) dX9_foretold_48 (fun H locs hw => ?_)
    exact fin_i C hw (Option.some.inj hf) (fun o => o.1) (fun o => (dO G ad o.2 dw ++ [])) rfl rfl dX9_foretold_51
  unfold f_X9_foretold at hf
  refine r_aload0 C hl 0 rfl dX9_foretold_0 ?_
  refine lv_iconst (v := 0) C.1 C.2.1 dX9_foretold_1 (by decide) ?_
  obtain ⟨d_ad1, e1, hf⟩ := bx hf
  refine r_put C hw _ (gx_h dO_o) 0 fp_X9_75 rfl rfl (Nat.le_of_ble_eq_true rfl) (dO G ad d_ad1 dw ++ []) (sx_h dO_o (dO_p0 e1)) dX9_foretold_2 (fun H locs hw => ?_)
  refine r_aload0 C hl 0 rfl dX9_foretold_5 ?_
  refine r_get C hw _ (gx_h dO_o) 19 fl_X9_225 rfl dX9_foretold_6 ?_
  refine lv_if_eq (tgt := 21) C.1 C.2.1 dX9_foretold_9 (by decide) (fun hc => ?_) (fun hc => ?_)
  · replace hf := ifp hf hc
    exact hB_21  d_ad1 hf _ _ hw _ (lv_sub hl [0] rfl)
  · replace hf := ifn hf hc
    refine r_iload0 C hl 3 rfl dX9_foretold_12 ?_
    refine lv_iconst (v := 0) C.1 C.2.1 dX9_foretold_13 (by decide) ?_
    refine lv_iconst (v := 2) C.1 C.2.1 dX9_foretold_14 (by decide) ?_
    obtain ⟨u3, e3, hf⟩ := bx hf
    refine r_callSi (ws' := (dO G ad d_ad1 dw ++ [])) (As := [.int x3, .int 0, .int 2]) (rest := []) C hw hl.1 kX9_in ml_X9_100 (c_X9_in l G _ x3 0 2 u3 e3) CutX.none ⟨rfl, rfl⟩ ⟨Nat.le_of_ble_eq_true rfl, Nat.le_of_ble_eq_true rfl⟩ rfl ⟨Nat.zero_le _, Nat.zero_le _⟩ rfl (Nat.le_of_ble_eq_true rfl) dX9_foretold_15 (fun H locs hw => ?_)
    refine lv_if_ne (tgt := 27) C.1 C.2.1 dX9_foretold_18 (by decide) (fun hc => ?_) (fun hc => ?_)
    · replace hf := ifn hf hc
      refine r_iload0 C hl 1 rfl dX9_foretold_27 ?_
      refine lv_iconst (v := 1) C.1 C.2.1 dX9_foretold_28 (by decide) ?_
      refine lv_bipush (v := 24) C.1 C.2.1 dX9_foretold_29 (by decide) ?_
      obtain ⟨u4, e4, hf⟩ := bx hf
      refine r_callSi (ws' := (dO G ad d_ad1 dw ++ [])) (As := [.int x1, .int 1, .int 24]) (rest := []) C hw hl.1 kX9_in ml_X9_100 (c_X9_in l G _ x1 1 24 u4 e4) CutX.none ⟨rfl, rfl⟩ ⟨Nat.le_of_ble_eq_true rfl, Nat.le_of_ble_eq_true rfl⟩ rfl ⟨Nat.zero_le _, Nat.zero_le _⟩ rfl (Nat.le_of_ble_eq_true rfl) dX9_foretold_31 (fun H locs hw => ?_)
      refine lv_if_eq (tgt := 46) C.1 C.2.1 dX9_foretold_34 (by decide) (fun hc => ?_) (fun hc => ?_)
      · replace hf := ifp hf hc
        exact hB_46  d_ad1 hf _ _ hw _ (lv_sub hl [0] rfl)
      · replace hf := ifn hf hc
        refine r_iload0 C hl 2 rfl dX9_foretold_37 ?_
        refine lv_iconst (v := 1) C.1 C.2.1 dX9_foretold_38 (by decide) ?_
        refine lv_iconst (v := 4) C.1 C.2.1 dX9_foretold_39 (by decide) ?_
        obtain ⟨u6, e6, hf⟩ := bx hf
        refine r_callSi (ws' := (dO G ad d_ad1 dw ++ [])) (As := [.int x2, .int 1, .int 4]) (rest := []) C hw hl.1 kX9_in ml_X9_100 (c_X9_in l G _ x2 1 4 u6 e6) CutX.none ⟨rfl, rfl⟩ ⟨Nat.le_of_ble_eq_true rfl, Nat.le_of_ble_eq_true rfl⟩ rfl ⟨Nat.zero_le _, Nat.zero_le _⟩ rfl (Nat.le_of_ble_eq_true rfl) dX9_foretold_40 (fun H locs hw => ?_)
        refine lv_if_ne (tgt := 52) C.1 C.2.1 dX9_foretold_43 (by decide) (fun hc => ?_) (fun hc => ?_)
        · replace hf := ifn hf hc
          refine r_aload0 C hl 0 rfl dX9_foretold_52 ?_
          refine r_aload0 C hl 0 rfl dX9_foretold_53 ?_
          refine r_iload0 C hl 1 rfl dX9_foretold_54 ?_
          refine r_iload0 C hl 2 rfl dX9_foretold_55 ?_
          refine r_iload0 C hl 3 rfl dX9_foretold_56 ?_
          obtain ⟨u7, e7, hf⟩ := bx hf
          refine r_callVi (ws' := (dO G ad u7.2 dw ++ [])) (As := [.int x1, .int x2, .int x3]) (rest := [.ref (ad 99)]) C hw hl.1 kX9_foretells ml_X9_423 (c_X9_foretells l G ad _ d_ad1 dw x1 x2 x3 u7 e7) (CutX.take dO_f CutX.none) _ (gx_h dO_o) rfl ⟨rfl, rfl⟩ ⟨Nat.le_of_ble_eq_true rfl, Nat.le_of_ble_eq_true rfl⟩ rfl ⟨Nat.zero_le _, Nat.zero_le _⟩ rfl (Nat.le_of_ble_eq_true rfl) dX9_foretold_57 (fun H locs hw => ?_)
          obtain ⟨u8, e8, hf⟩ := bx hf
          refine r_callVi (ws' := (dO G ad u8.2 dw ++ [])) (As := [.int u7.1]) (rest := []) C hw hl.1 kX9_good ml_X9_222 (c_X9_good l G ad _ u7.2 dw u7.1 u8 e8) (CutX.take dO_f CutX.none) _ (gx_h dO_o) rfl ⟨rfl, rfl⟩ ⟨Nat.le_of_ble_eq_true rfl, Nat.le_of_ble_eq_true rfl⟩ rfl ⟨Nat.zero_le _, Nat.zero_le _⟩ rfl (Nat.le_of_ble_eq_true rfl) dX9_foretold_60 (fun H locs hw => ?_)
          exact fin_i C hw (Option.some.inj hf) (fun o => o.1) (fun o => (dO G ad o.2 dw ++ [])) rfl rfl dX9_foretold_63
        · replace hf := ifp hf hc
          exact hB_46  d_ad1 hf _ _ hw _ (lv_sub hl [0] rfl)
    · replace hf := ifp hf hc
      exact hB_21  d_ad1 hf _ _ hw _ (lv_sub hl [0] rfl)
set_option maxHeartbeats 4000000 in
set_option maxRecDepth 100000 in
theorem c_X9_enough (l : Launch) (G : GG) (ad : Nat → Nat) (sz : Nat) (d_ad : Pic) (dw : Int64)  (out : Int32 × Pic) (hf : f_X9_enough d_ad = some out) : Met l yX9_enough (.code yX9_enough cX9_enough 2 (some .int) :: BT) ({ frames := 8, cells := 0, slots := 0, locals := 182 }) (va_Pc [.ref (ad 99)] (PreW G sz (dO G ad d_ad dw ++ []))) (Ans G out.1 (va_A (dO G ad d_ad dw ++ []) sz) (dO G ad out.2 dw ++ [])) 0 0 (va_A (dO G ad d_ad dw ++ []) sz) := by
  refine Met.into (by decide) (Nat.le_of_ble_eq_true rfl) ?_
  intro p e s m below meth c C hsz ls hl hw
  have hl : lv_has ls 2 [(0, .ref (ad 99))] := hl
  clear hsz
  generalize va_A (dO G ad d_ad dw ++ []) sz = A at hw ⊢
  have hB_20 : ∀ (k20 : Pic → Int32 → Option (Int32 × Pic)) (hk20 : ∀ (d_ad : Pic) (v1 : Int32), k20 d_ad v1 = some out → ∀ (H : Heap) (locs : List Loc), Wd G A s H locs (dO G ad d_ad dw ++ []) → ∀ ls : Array Slot, lv_has ls 2 [(0, .ref (ad 99)), (1, .int v1)] → W p l e ({ frames := 8, cells := 0, slots := 0, locals := 182 }) s m [.ref (ad 99)].toArray below meth c H locs 0 0 (MQ below (Ans G out.1 A (dO G ad out.2 dw ++ [])) [.ref (ad 99)].toArray s 0 0 A) (F0 m 20 ls [])), ∀ (d_ad : Pic) (v1 : Int32), b_X9_enough_20  k20 d_ad v1 = some out → ∀ (H : Heap) (locs : List Loc), Wd G A s H locs (dO G ad d_ad dw ++ []) → ∀ ls : Array Slot, lv_has ls 2 [(0, .ref (ad 99)), (1, .int v1)] → W p l e ({ frames := 8, cells := 0, slots := 0, locals := 182 }) s m [.ref (ad 99)].toArray below meth c H locs 0 0 (MQ below (Ans G out.1 A (dO G ad out.2 dw ++ [])) [.ref (ad 99)].toArray s 0 0 A) (F0 m 20 ls []) := by
    intro k20 hk20 d_ad v1 hf H locs hw ls hl
    unfold b_X9_enough_20 at hf
    refine r_iload0 C hl 1 rfl dX9_enough_20 ?_
    refine lv_bipush (v := 24) C.1 C.2.1 dX9_enough_21 (by decide) ?_
    refine lv_icmp_gt (tgt := 51) C.1 C.2.1 dX9_enough_23 (by decide) (fun hc => ?_) (fun hc => ?_)
    · replace hf := ifp hf hc
      refine r_aload0 C hl 0 rfl dX9_enough_51 ?_
      refine lv_bipush (v := (-2)) C.1 C.2.1 dX9_enough_52 (by decide) ?_
      obtain ⟨u2, e2, hf⟩ := bx hf
      refine r_callVi (ws' := (dO G ad u2.2 dw ++ [])) (As := [.int (-2)]) (rest := []) C hw hl.1 kX9_good ml_X9_222 (c_X9_good l G ad _ d_ad dw (-2) u2 e2) (CutX.take dO_f CutX.none) _ (gx_h dO_o) rfl ⟨rfl, rfl⟩ ⟨Nat.le_of_ble_eq_true rfl, Nat.le_of_ble_eq_true rfl⟩ rfl ⟨Nat.zero_le _, Nat.zero_le _⟩ rfl (Nat.le_of_ble_eq_true rfl) dX9_enough_54 (fun H locs hw => ?_)
      exact fin_i C hw (Option.some.inj hf) (fun o => o.1) (fun o => (dO G ad o.2 dw ++ [])) rfl rfl dX9_enough_57
    · replace hf := ifn hf hc
      refine r_aload0 C hl 0 rfl dX9_enough_26 ?_
      refine r_iload0 C hl 1 rfl dX9_enough_27 ?_
      refine r_aload0 C hl 0 rfl dX9_enough_28 ?_
      refine r_get C hw _ (gx_h dO_o) 3 fl_X9_229 rfl dX9_enough_29 ?_
      refine lv_iconst (v := 1) C.1 C.2.1 dX9_enough_32 (by decide) ?_
      obtain ⟨u3, e3, hf⟩ := bx hf
      refine r_callVi (ws' := (dO G ad u3.2 dw ++ [])) (As := [.int v1, .int (gS d_ad 3), .int 1]) (rest := []) C hw hl.1 kX9_foretells ml_X9_423 (c_X9_foretells l G ad _ d_ad dw v1 (gS d_ad 3) 1 u3 e3) (CutX.take dO_f CutX.none) _ (gx_h dO_o) rfl ⟨rfl, rfl⟩ ⟨Nat.le_of_ble_eq_true rfl, Nat.le_of_ble_eq_true rfl⟩ rfl ⟨Nat.zero_le _, Nat.zero_le _⟩ rfl (Nat.le_of_ble_eq_true rfl) dX9_enough_33 (fun H locs hw => ?_)
      refine lv_if_ne (tgt := 45) C.1 C.2.1 dX9_enough_36 (by decide) (fun hc => ?_) (fun hc => ?_)
      · replace hf := ifn hf hc
        refine r_iinc C hl 1 (v1 + 1) [(1, .int (v1 + 1)), (0, .ref (ad 99))] rfl (iinc_e (by decide)) (by decide) rfl dX9_enough_45 (fun ls hl => ?_)
        refine lv_goto (tgt := 20) C.1 C.2.1 dX9_enough_48 (by decide) ?_
        exact hk20 u3.2 (v1 + 1) hf _ _ hw _ (lv_sub hl [1, 0] rfl)
      · replace hf := ifp hf hc
        refine r_aload0 C hl 0 rfl dX9_enough_39 ?_
        refine r_iload0 C hl 1 rfl dX9_enough_40 ?_
        obtain ⟨u4, e4, hf⟩ := bx hf
        refine r_callVi (ws' := (dO G ad u4.2 dw ++ [])) (As := [.int v1]) (rest := []) C hw hl.1 kX9_good ml_X9_222 (c_X9_good l G ad _ u3.2 dw v1 u4 e4) (CutX.take dO_f CutX.none) _ (gx_h dO_o) rfl ⟨rfl, rfl⟩ ⟨Nat.le_of_ble_eq_true rfl, Nat.le_of_ble_eq_true rfl⟩ rfl ⟨Nat.zero_le _, Nat.zero_le _⟩ rfl (Nat.le_of_ble_eq_true rfl) dX9_enough_41 (fun H locs hw => ?_)
        exact fin_i C hw (Option.some.inj hf) (fun o => o.1) (fun o => (dO G ad o.2 dw ++ [])) rfl rfl dX9_enough_44
  have hL_20 : ∀ n : Nat, ∀ (d_ad : Pic) (v1 : Int32), L_X9_enough_20   n d_ad v1 = some out → ∀ (H : Heap) (locs : List Loc), Wd G A s H locs (dO G ad d_ad dw ++ []) → ∀ ls : Array Slot, lv_has ls 2 [(0, .ref (ad 99)), (1, .int v1)] → W p l e ({ frames := 8, cells := 0, slots := 0, locals := 182 }) s m [.ref (ad 99)].toArray below meth c H locs 0 0 (MQ below (Ans G out.1 A (dO G ad out.2 dw ++ [])) [.ref (ad 99)].toArray s 0 0 A) (F0 m 20 ls []) := by
    intro  n
    induction n with
    | zero => intro d_ad v1 hf; cases hf
    | succ n ih => exact hB_20 _ ih
  unfold f_X9_enough at hf
  refine r_aload0 C hl 0 rfl dX9_enough_0 ?_
  refine lv_iconst (v := 0) C.1 C.2.1 dX9_enough_1 (by decide) ?_
  obtain ⟨d_ad1, e1, hf⟩ := bx hf
  refine r_put C hw _ (gx_h dO_o) 0 fp_X9_75 rfl rfl (Nat.le_of_ble_eq_true rfl) (dO G ad d_ad1 dw ++ []) (sx_h dO_o (dO_p0 e1)) dX9_enough_2 (fun H locs hw => ?_)
  refine r_aload0 C hl 0 rfl dX9_enough_5 ?_
  refine r_get C hw _ (gx_h dO_o) 19 fl_X9_225 rfl dX9_enough_6 ?_
  refine lv_if_ne (tgt := 18) C.1 C.2.1 dX9_enough_9 (by decide) (fun hc => ?_) (fun hc => ?_)
  · replace hf := ifn hf hc
    refine lv_iconst (v := 1) C.1 C.2.1 dX9_enough_18 (by decide) ?_
    refine r_istore0 C hl [(1, .int 1), (0, .ref (ad 99))] (by decide) rfl dX9_enough_19 (fun ls hl => ?_)
    exact hL_20  FU d_ad1 1 hf _ _ hw _ (lv_sub hl [1, 0] rfl)
  · replace hf := ifp hf hc
    refine r_aload0 C hl 0 rfl dX9_enough_12 ?_
    refine lv_iconst (v := 1) C.1 C.2.1 dX9_enough_13 (by decide) ?_
    obtain ⟨u5, e5, hf⟩ := bx hf
    refine r_callVi (ws' := (dO G ad u5.2 dw ++ [])) (As := [.int 1]) (rest := []) C hw hl.1 kX9_refused ml_X9_210 (c_X9_refused l G ad _ d_ad1 dw 1 u5 e5) (CutX.take dO_f CutX.none) _ (gx_h dO_o) rfl ⟨rfl, rfl⟩ ⟨Nat.le_of_ble_eq_true rfl, Nat.le_of_ble_eq_true rfl⟩ rfl ⟨Nat.zero_le _, Nat.zero_le _⟩ rfl (Nat.le_of_ble_eq_true rfl) dX9_enough_14 (fun H locs hw => ?_)
    exact fin_i C hw (Option.some.inj hf) (fun o => o.1) (fun o => (dO G ad o.2 dw ++ [])) rfl rfl dX9_enough_17
set_option maxHeartbeats 4000000 in
set_option maxRecDepth 100000 in
theorem c_X9_op (l : Launch) (G : GG) (ad : Nat → Nat) (sz : Nat) (d_ad : Pic) (dw : Int64) (x1 x2 : Int32) (out : Int32 × Pic) (hf : f_X9_op d_ad x1 x2 = some out) : Met l yX9_op (.code yX9_op cX9_op 3 (some .int) :: BT) ({ frames := 1, cells := 0, slots := 0, locals := 22 }) (va_Pc [.ref (ad 99), .int x1, .int x2] (PreW G sz (dO G ad d_ad dw ++ []))) (Ans G out.1 (va_A (dO G ad d_ad dw ++ []) sz) (dO G ad out.2 dw ++ [])) 0 0 (va_A (dO G ad d_ad dw ++ []) sz) := by
  refine Met.into (by decide) (Nat.le_of_ble_eq_true rfl) ?_
  intro p e s m below meth c C hsz ls hl hw
  have hl : lv_has ls 3 [(0, .ref (ad 99)), (1, .int x1), (2, .int x2)] := hl
  clear hsz
  generalize va_A (dO G ad d_ad dw ++ []) sz = A at hw ⊢
  have hB_33 : ∀ (d_ad : Pic), b_X9_op_33 x1 x2  d_ad = some out → ∀ (H : Heap) (locs : List Loc), Wd G A s H locs (dO G ad d_ad dw ++ []) → ∀ ls : Array Slot, lv_has ls 3 [(0, .ref (ad 99))] → W p l e ({ frames := 1, cells := 0, slots := 0, locals := 22 }) s m [.ref (ad 99), .int x1, .int x2].toArray below meth c H locs 0 0 (MQ below (Ans G out.1 A (dO G ad out.2 dw ++ [])) [.ref (ad 99), .int x1, .int x2].toArray s 0 0 A) (F0 m 33 ls []) := by
    intro d_ad hf H locs hw ls hl
    unfold b_X9_op_33 at hf
    refine r_aload0 C hl 0 rfl dX9_op_33 ?_
    refine lv_iconst (v := 1) C.1 C.2.1 dX9_op_34 (by decide) ?_
    obtain ⟨u2, e2, hf⟩ := bx hf
    refine r_callVi (ws' := (dO G ad u2.2 dw ++ [])) (As := [.int 1]) (rest := []) C hw hl.1 kX9_refused ml_X9_210 (c_X9_refused l G ad _ d_ad dw 1 u2 e2) (CutX.take dO_f CutX.none) _ (gx_h dO_o) rfl ⟨rfl, rfl⟩ ⟨Nat.le_of_ble_eq_true rfl, Nat.le_of_ble_eq_true rfl⟩ rfl ⟨Nat.zero_le _, Nat.zero_le _⟩ rfl (Nat.le_of_ble_eq_true rfl) dX9_op_35 (fun H locs hw => ?_)
    exact fin_i C hw (Option.some.inj hf) (fun o => o.1) (fun o => (dO G ad o.2 dw ++ [])) rfl rfl dX9_op_38
  have hB_73 : ∀ (d_ad : Pic) (t0 : Int32), b_X9_op_73 x1 x2  d_ad t0 = some out → ∀ (H : Heap) (locs : List Loc), Wd G A s H locs (dO G ad d_ad dw ++ []) → ∀ ls : Array Slot, lv_has ls 3 [] → W p l e ({ frames := 1, cells := 0, slots := 0, locals := 22 }) s m [.ref (ad 99), .int x1, .int x2].toArray below meth c H locs 0 0 (MQ below (Ans G out.1 A (dO G ad out.2 dw ++ [])) [.ref (ad 99), .int x1, .int x2].toArray s 0 0 A) (F0 m 73 ls [.int t0, .ref (ad 99)]) := by
    intro d_ad t0 hf H locs hw ls hl
    unfold b_X9_op_73 at hf
    obtain ⟨u5, e5, hf⟩ := bx hf
    refine r_callVi (ws' := (dO G ad u5.2 dw ++ [])) (As := [.int t0]) (rest := []) C hw hl.1 kX9_good ml_X9_222 (c_X9_good l G ad _ d_ad dw t0 u5 e5) (CutX.take dO_f CutX.none) _ (gx_h dO_o) rfl ⟨rfl, rfl⟩ ⟨Nat.le_of_ble_eq_true rfl, Nat.le_of_ble_eq_true rfl⟩ rfl ⟨Nat.zero_le _, Nat.zero_le _⟩ rfl (Nat.le_of_ble_eq_true rfl) dX9_op_73 (fun H locs hw => ?_)
    exact fin_i C hw (Option.some.inj hf) (fun o => o.1) (fun o => (dO G ad o.2 dw ++ [])) rfl rfl dX9_op_76
  unfold f_X9_op at hf
  refine r_aload0 C hl 0 rfl dX9_op_0 ?_
  refine lv_iconst (v := 0) C.1 C.2.1 dX9_op_1 (by decide) ?_
  obtain ⟨d_ad1, e1, hf⟩ := bx hf
  refine r_put C hw _ (gx_h dO_o) 0 fp_X9_75 rfl rfl (Nat.le_of_ble_eq_true rfl) (dO G ad d_ad1 dw ++ []) (sx_h dO_o (dO_p0 e1)) dX9_op_2 (fun H locs hw => ?_)
  refine r_aload0 C hl 0 rfl dX9_op_5 ?_
  refine r_get C hw _ (gx_h dO_o) 19 fl_X9_225 rfl dX9_op_6 ?_
  refine lv_if_eq (tgt := 33) C.1 C.2.1 dX9_op_9 (by decide) (fun hc => ?_) (fun hc => ?_)
  · replace hf := ifp hf hc
    exact hB_33  d_ad1 hf _ _ hw _ (lv_sub hl [0] rfl)
  · replace hf := ifn hf hc
    refine r_iload0 C hl 1 rfl dX9_op_12 ?_
    refine lv_if_lt (tgt := 33) C.1 C.2.1 dX9_op_13 (by decide) (fun hc => ?_) (fun hc => ?_)
    · replace hf := ifp hf hc
      exact hB_33  d_ad1 hf _ _ hw _ (lv_sub hl [0] rfl)
    · replace hf := ifn hf hc
      refine r_iload0 C hl 1 rfl dX9_op_16 ?_
      refine r_aload0 C hl 0 rfl dX9_op_17 ?_
      refine r_get C hw _ (gx_h dO_o) 6 fl_X9_233 rfl dX9_op_18 ?_
      refine lv_icmp_ge (tgt := 33) C.1 C.2.1 dX9_op_21 (by decide) (fun hc => ?_) (fun hc => ?_)
      · replace hf := ifp hf hc
        exact hB_33  d_ad1 hf _ _ hw _ (lv_sub hl [0] rfl)
      · replace hf := ifn hf hc
        refine r_iload0 C hl 2 rfl dX9_op_24 ?_
        refine lv_iconst (v := 0) C.1 C.2.1 dX9_op_25 (by decide) ?_
        refine lv_iconst (v := 2) C.1 C.2.1 dX9_op_26 (by decide) ?_
        obtain ⟨u3, e3, hf⟩ := bx hf
        refine r_callSi (ws' := (dO G ad d_ad1 dw ++ [])) (As := [.int x2, .int 0, .int 2]) (rest := []) C hw hl.1 kX9_in ml_X9_100 (c_X9_in l G _ x2 0 2 u3 e3) CutX.none ⟨rfl, rfl⟩ ⟨Nat.le_of_ble_eq_true rfl, Nat.le_of_ble_eq_true rfl⟩ rfl ⟨Nat.zero_le _, Nat.zero_le _⟩ rfl (Nat.le_of_ble_eq_true rfl) dX9_op_27 (fun H locs hw => ?_)
        refine lv_if_ne (tgt := 39) C.1 C.2.1 dX9_op_30 (by decide) (fun hc => ?_) (fun hc => ?_)
        · replace hf := ifn hf hc
          refine r_aload0 C hl 0 rfl dX9_op_39 ?_
          refine r_iload0 C hl 2 rfl dX9_op_40 ?_
          refine lv_if_ne (tgt := 53) C.1 C.2.1 dX9_op_41 (by decide) (fun hc => ?_) (fun hc => ?_)
          · replace hf := ifn hf hc
            refine r_iload0 C hl 2 rfl dX9_op_53 ?_
            refine lv_iconst (v := 1) C.1 C.2.1 dX9_op_54 (by decide) ?_
            refine lv_icmp_ne (tgt := 67) C.1 C.2.1 dX9_op_55 (by decide) (fun hc => ?_) (fun hc => ?_)
            · replace hf := ifn hf hc
              refine r_aload0 C hl 0 rfl dX9_op_67 ?_
              refine r_get C hw _ (gx_h dO_o) 14 fl_X9_20 rfl dX9_op_68 ?_
              refine r_iload0 C hl 1 rfl dX9_op_71 ?_
              obtain ⟨v4_, e4, hf⟩ := bx hf
              refine r_iald C hw _ (gx_h dO_g14) e4 dX9_op_72 ?_
              exact hB_73  d_ad1 v4_ hf _ _ hw _ (lv_sub hl [] rfl)
            · replace hf := ifp hf hc
              refine r_aload0 C hl 0 rfl dX9_op_58 ?_
              refine r_get C hw _ (gx_h dO_o) 13 fl_X9_17 rfl dX9_op_59 ?_
              refine r_iload0 C hl 1 rfl dX9_op_62 ?_
              obtain ⟨v6_, e6, hf⟩ := bx hf
              refine r_iald C hw _ (gx_h dO_g13) e6 dX9_op_63 ?_
              refine lv_goto (tgt := 73) C.1 C.2.1 dX9_op_64 (by decide) ?_
              exact hB_73  d_ad1 v6_ hf _ _ hw _ (lv_sub hl [] rfl)
          · replace hf := ifp hf hc
            refine r_aload0 C hl 0 rfl dX9_op_44 ?_
            refine r_get C hw _ (gx_h dO_o) 12 fl_X9_13 rfl dX9_op_45 ?_
            refine r_iload0 C hl 1 rfl dX9_op_48 ?_
            obtain ⟨v7_, e7, hf⟩ := bx hf
            refine r_iald C hw _ (gx_h dO_g12) e7 dX9_op_49 ?_
            refine lv_goto (tgt := 73) C.1 C.2.1 dX9_op_50 (by decide) ?_
            exact hB_73  d_ad1 v7_ hf _ _ hw _ (lv_sub hl [] rfl)
        · replace hf := ifp hf hc
          exact hB_33  d_ad1 hf _ _ hw _ (lv_sub hl [0] rfl)
set_option maxHeartbeats 4000000 in
set_option maxRecDepth 100000 in
theorem c_X9_remembers (l : Launch) (G : GG) (ad : Nat → Nat) (sz : Nat) (d_ad : Pic) (dw : Int64)  (out : Pic) (hf : f_X9_remembers d_ad = some out) : Met l yX9_remembers (.code yX9_remembers cX9_remembers 2 none :: BT) ({ frames := 0, cells := 0, slots := 0, locals := 0 }) (va_Pc [.ref (ad 99)] (PreW G sz (dO G ad d_ad dw ++ []))) (Don G (va_A (dO G ad d_ad dw ++ []) sz) (dO G ad out dw ++ [])) 0 0 (va_A (dO G ad d_ad dw ++ []) sz) := by
  refine Met.into (by decide) (Nat.le_of_ble_eq_true rfl) ?_
  intro p e s m below meth c C hsz ls hl hw
  have hl : lv_has ls 2 [(0, .ref (ad 99))] := hl
  clear hsz
  generalize va_A (dO G ad d_ad dw ++ []) sz = A at hw ⊢
  have hB_52 : ∀ (k52 : Pic → Int32 → Option (Pic)) (hk52 : ∀ (d_ad : Pic) (v1 : Int32), k52 d_ad v1 = some out → ∀ (H : Heap) (locs : List Loc), Wd G A s H locs (dO G ad d_ad dw ++ []) → ∀ ls : Array Slot, lv_has ls 2 [(0, .ref (ad 99)), (1, .int v1)] → W p l e ({ frames := 0, cells := 0, slots := 0, locals := 0 }) s m [.ref (ad 99)].toArray below meth c H locs 0 0 (MQ below (Don G A (dO G ad out dw ++ [])) [.ref (ad 99)].toArray s 0 0 A) (F0 m 52 ls [])), ∀ (d_ad : Pic) (v1 : Int32), b_X9_remembers_52  k52 d_ad v1 = some out → ∀ (H : Heap) (locs : List Loc), Wd G A s H locs (dO G ad d_ad dw ++ []) → ∀ ls : Array Slot, lv_has ls 2 [(0, .ref (ad 99)), (1, .int v1)] → W p l e ({ frames := 0, cells := 0, slots := 0, locals := 0 }) s m [.ref (ad 99)].toArray below meth c H locs 0 0 (MQ below (Don G A (dO G ad out dw ++ [])) [.ref (ad 99)].toArray s 0 0 A) (F0 m 52 ls []) := by
    intro k52 hk52 d_ad v1 hf H locs hw ls hl
    unfold b_X9_remembers_52 at hf
    refine r_iload0 C hl 1 rfl dX9_remembers_52 ?_
    refine lv_sipush (v := 1234) C.1 C.2.1 dX9_remembers_53 (by decide) ?_
    refine lv_icmp_ge (tgt := 86) C.1 C.2.1 dX9_remembers_56 (by decide) (fun hc => ?_) (fun hc => ?_)
    · replace hf := ifp hf hc
      refine r_aload0 C hl 0 rfl dX9_remembers_86 ?_
      refine lv_dup C.1 C.2.1 dX9_remembers_87 rfl ?_
      refine r_get C hw _ (gx_h dO_o) 23 fl_X9_239 rfl dX9_remembers_88 ?_
      refine lv_iconst (v := 1) C.1 C.2.1 dX9_remembers_91 (by decide) ?_
      refine lv_iadd C.1 C.2.1 dX9_remembers_92 ?_
      obtain ⟨d_ad1, e1, hf⟩ := bx hf
      refine r_put C hw _ (gx_h dO_o) 23 fp_X9_239 rfl rfl (Nat.le_of_ble_eq_true rfl) (dO G ad d_ad1 dw ++ []) (sx_h dO_o (dO_p23 e1)) dX9_remembers_93 (fun H locs hw => ?_)
      exact fin_v C hw (Option.some.inj hf) (fun o => (dO G ad o dw ++ [])) rfl dX9_remembers_96
    · replace hf := ifn hf hc
      refine r_aload0 C hl 0 rfl dX9_remembers_59 ?_
      refine r_get C hw _ (gx_h dO_o) 22 fl_X9_41 rfl dX9_remembers_60 ?_
      refine lv_sipush (v := 1234) C.1 C.2.1 dX9_remembers_63 (by decide) ?_
      refine r_aload0 C hl 0 rfl dX9_remembers_66 ?_
      refine r_get C hw _ (gx_h dO_o) 23 fl_X9_239 rfl dX9_remembers_67 ?_
      refine lv_imul C.1 C.2.1 dX9_remembers_70 ?_
      refine r_iload0 C hl 1 rfl dX9_remembers_71 ?_
      refine lv_iadd C.1 C.2.1 dX9_remembers_72 ?_
      refine r_aload0 C hl 0 rfl dX9_remembers_73 ?_
      refine r_get C hw _ (gx_h dO_o) 20 fl_X9_35 rfl dX9_remembers_74 ?_
      refine r_iload0 C hl 1 rfl dX9_remembers_77 ?_
      obtain ⟨v2_, e2, hf⟩ := bx hf
      refine r_iald C hw _ (gx_h dO_g20) e2 dX9_remembers_78 ?_
      obtain ⟨d_ad3, e3, hf⟩ := bx hf
      refine r_iast C hw _ (gx_h dO_g22) e3 (dO G ad d_ad3 dw ++ []) (fun h => (sx_h dO_g22 (dO_s22 h))) dX9_remembers_79 (fun H locs hw => ?_)
      refine r_iinc C hl 1 (v1 + 1) [(1, .int (v1 + 1)), (0, .ref (ad 99))] rfl (iinc_e (by decide)) (by decide) rfl dX9_remembers_80 (fun ls hl => ?_)
      refine lv_goto (tgt := 52) C.1 C.2.1 dX9_remembers_83 (by decide) ?_
      exact hk52 d_ad3 (v1 + 1) hf _ _ hw _ (lv_sub hl [1, 0] rfl)
  have hL_52 : ∀ n : Nat, ∀ (d_ad : Pic) (v1 : Int32), L_X9_remembers_52   n d_ad v1 = some out → ∀ (H : Heap) (locs : List Loc), Wd G A s H locs (dO G ad d_ad dw ++ []) → ∀ ls : Array Slot, lv_has ls 2 [(0, .ref (ad 99)), (1, .int v1)] → W p l e ({ frames := 0, cells := 0, slots := 0, locals := 0 }) s m [.ref (ad 99)].toArray below meth c H locs 0 0 (MQ below (Don G A (dO G ad out dw ++ [])) [.ref (ad 99)].toArray s 0 0 A) (F0 m 52 ls []) := by
    intro  n
    induction n with
    | zero => intro d_ad v1 hf; cases hf
    | succ n ih => exact hB_52 _ ih
  have hB_11 : ∀ (k11 : Pic → Int32 → Option (Pic)) (hk11 : ∀ (d_ad : Pic) (v1 : Int32), k11 d_ad v1 = some out → ∀ (H : Heap) (locs : List Loc), Wd G A s H locs (dO G ad d_ad dw ++ []) → ∀ ls : Array Slot, lv_has ls 2 [(0, .ref (ad 99)), (1, .int v1)] → W p l e ({ frames := 0, cells := 0, slots := 0, locals := 0 }) s m [.ref (ad 99)].toArray below meth c H locs 0 0 (MQ below (Don G A (dO G ad out dw ++ [])) [.ref (ad 99)].toArray s 0 0 A) (F0 m 11 ls [])), ∀ (d_ad : Pic) (v1 : Int32), b_X9_remembers_11  k11 d_ad v1 = some out → ∀ (H : Heap) (locs : List Loc), Wd G A s H locs (dO G ad d_ad dw ++ []) → ∀ ls : Array Slot, lv_has ls 2 [(0, .ref (ad 99)), (1, .int v1)] → W p l e ({ frames := 0, cells := 0, slots := 0, locals := 0 }) s m [.ref (ad 99)].toArray below meth c H locs 0 0 (MQ below (Don G A (dO G ad out dw ++ [])) [.ref (ad 99)].toArray s 0 0 A) (F0 m 11 ls []) := by
    intro k11 hk11 d_ad v1 hf H locs hw ls hl
    unfold b_X9_remembers_11 at hf
    refine r_iload0 C hl 1 rfl dX9_remembers_11 ?_
    refine lv_sipush (v := 11106) C.1 C.2.1 dX9_remembers_12 (by decide) ?_
    refine lv_icmp_ge (tgt := 40) C.1 C.2.1 dX9_remembers_15 (by decide) (fun hc => ?_) (fun hc => ?_)
    · replace hf := ifp hf hc
      refine r_aload0 C hl 0 rfl dX9_remembers_40 ?_
      refine lv_dup C.1 C.2.1 dX9_remembers_41 rfl ?_
      refine r_get C hw _ (gx_h dO_o) 23 fl_X9_239 rfl dX9_remembers_42 ?_
      refine lv_iconst (v := 1) C.1 C.2.1 dX9_remembers_45 (by decide) ?_
      refine lv_isub C.1 C.2.1 dX9_remembers_46 ?_
      obtain ⟨d_ad4, e4, hf⟩ := bx hf
      refine r_put C hw _ (gx_h dO_o) 23 fp_X9_239 rfl rfl (Nat.le_of_ble_eq_true rfl) (dO G ad d_ad4 dw ++ []) (sx_h dO_o (dO_p23 e4)) dX9_remembers_47 (fun H locs hw => ?_)
      refine lv_iconst (v := 0) C.1 C.2.1 dX9_remembers_50 (by decide) ?_
      refine r_istore0 C hl [(1, .int 0), (0, .ref (ad 99))] (by decide) rfl dX9_remembers_51 (fun ls hl => ?_)
      exact hL_52  FU d_ad4 0 hf _ _ hw _ (lv_sub hl [1, 0] rfl)
    · replace hf := ifn hf hc
      refine r_aload0 C hl 0 rfl dX9_remembers_18 ?_
      refine r_get C hw _ (gx_h dO_o) 22 fl_X9_41 rfl dX9_remembers_19 ?_
      refine r_iload0 C hl 1 rfl dX9_remembers_22 ?_
      refine r_aload0 C hl 0 rfl dX9_remembers_23 ?_
      refine r_get C hw _ (gx_h dO_o) 22 fl_X9_41 rfl dX9_remembers_24 ?_
      refine r_iload0 C hl 1 rfl dX9_remembers_27 ?_
      refine lv_sipush (v := 1234) C.1 C.2.1 dX9_remembers_28 (by decide) ?_
      refine lv_iadd C.1 C.2.1 dX9_remembers_31 ?_
      obtain ⟨v5_, e5, hf⟩ := bx hf
      refine r_iald C hw _ (gx_h dO_g22) e5 dX9_remembers_32 ?_
      obtain ⟨d_ad6, e6, hf⟩ := bx hf
      refine r_iast C hw _ (gx_h dO_g22) e6 (dO G ad d_ad6 dw ++ []) (fun h => (sx_h dO_g22 (dO_s22 h))) dX9_remembers_33 (fun H locs hw => ?_)
      refine r_iinc C hl 1 (v1 + 1) [(1, .int (v1 + 1)), (0, .ref (ad 99))] rfl (iinc_e (by decide)) (by decide) rfl dX9_remembers_34 (fun ls hl => ?_)
      refine lv_goto (tgt := 11) C.1 C.2.1 dX9_remembers_37 (by decide) ?_
      exact hk11 d_ad6 (v1 + 1) hf _ _ hw _ (lv_sub hl [1, 0] rfl)
  have hL_11 : ∀ n : Nat, ∀ (d_ad : Pic) (v1 : Int32), L_X9_remembers_11   n d_ad v1 = some out → ∀ (H : Heap) (locs : List Loc), Wd G A s H locs (dO G ad d_ad dw ++ []) → ∀ ls : Array Slot, lv_has ls 2 [(0, .ref (ad 99)), (1, .int v1)] → W p l e ({ frames := 0, cells := 0, slots := 0, locals := 0 }) s m [.ref (ad 99)].toArray below meth c H locs 0 0 (MQ below (Don G A (dO G ad out dw ++ [])) [.ref (ad 99)].toArray s 0 0 A) (F0 m 11 ls []) := by
    intro  n
    induction n with
    | zero => intro d_ad v1 hf; cases hf
    | succ n ih => exact hB_11 _ ih
  unfold f_X9_remembers at hf
  refine r_aload0 C hl 0 rfl dX9_remembers_0 ?_
  refine r_get C hw _ (gx_h dO_o) 23 fl_X9_239 rfl dX9_remembers_1 ?_
  refine lv_bipush (v := 10) C.1 C.2.1 dX9_remembers_4 (by decide) ?_
  refine lv_icmp_ne (tgt := 50) C.1 C.2.1 dX9_remembers_6 (by decide) (fun hc => ?_) (fun hc => ?_)
  · replace hf := ifn hf hc
    refine lv_iconst (v := 0) C.1 C.2.1 dX9_remembers_50 (by decide) ?_
    refine r_istore0 C hl [(1, .int 0), (0, .ref (ad 99))] (by decide) rfl dX9_remembers_51 (fun ls hl => ?_)
    exact hL_52  FU d_ad 0 hf _ _ hw _ (lv_sub hl [1, 0] rfl)
  · replace hf := ifp hf hc
    refine lv_iconst (v := 0) C.1 C.2.1 dX9_remembers_9 (by decide) ?_
    refine r_istore0 C hl [(1, .int 0), (0, .ref (ad 99))] (by decide) rfl dX9_remembers_10 (fun ls hl => ?_)
    exact hL_11  FU d_ad 0 hf _ _ hw _ (lv_sub hl [1, 0] rfl)
set_option maxHeartbeats 4000000 in
set_option maxRecDepth 100000 in
theorem c_X9_store (l : Launch) (G : GG) (ad : Nat → Nat) (sz : Nat) (d_ad : Pic) (dw : Int64) (x1 x2 : Int32) (out : Int32 × Pic) (hf : f_X9_store d_ad x1 x2 = some out) : Met l yX9_store (.code yX9_store cX9_store 3 (some .int) :: BT) ({ frames := 6, cells := 0, slots := 0, locals := 135 }) (va_Pc [.ref (ad 99), .int x1, .int x2] (PreW G sz (dO G ad d_ad dw ++ []))) (Ans G out.1 (va_A (dO G ad d_ad dw ++ []) sz) (dO G ad out.2 dw ++ [])) 0 0 (va_A (dO G ad d_ad dw ++ []) sz) := by
  refine Met.into (by decide) (Nat.le_of_ble_eq_true rfl) ?_
  intro p e s m below meth c C hsz ls hl hw
  have hl : lv_has ls 3 [(0, .ref (ad 99)), (1, .int x1), (2, .int x2)] := hl
  clear hsz
  generalize va_A (dO G ad d_ad dw ++ []) sz = A at hw ⊢
  have hB_21 : ∀ (d_ad : Pic), b_X9_store_21 x1 x2  d_ad = some out → ∀ (H : Heap) (locs : List Loc), Wd G A s H locs (dO G ad d_ad dw ++ []) → ∀ ls : Array Slot, lv_has ls 3 [(0, .ref (ad 99))] → W p l e ({ frames := 6, cells := 0, slots := 0, locals := 135 }) s m [.ref (ad 99), .int x1, .int x2].toArray below meth c H locs 0 0 (MQ below (Ans G out.1 A (dO G ad out.2 dw ++ [])) [.ref (ad 99), .int x1, .int x2].toArray s 0 0 A) (F0 m 21 ls []) := by
    intro d_ad hf H locs hw ls hl
    unfold b_X9_store_21 at hf
    refine r_aload0 C hl 0 rfl dX9_store_21 ?_
    refine lv_iconst (v := 1) C.1 C.2.1 dX9_store_22 (by decide) ?_
    obtain ⟨u3, e3, hf⟩ := bx hf
    refine r_callVi (ws' := (dO G ad u3.2 dw ++ [])) (As := [.int 1]) (rest := []) C hw hl.1 kX9_refused ml_X9_210 (c_X9_refused l G ad _ d_ad dw 1 u3 e3) (CutX.take dO_f CutX.none) _ (gx_h dO_o) rfl ⟨rfl, rfl⟩ ⟨Nat.le_of_ble_eq_true rfl, Nat.le_of_ble_eq_true rfl⟩ rfl ⟨Nat.zero_le _, Nat.zero_le _⟩ rfl (Nat.le_of_ble_eq_true rfl) dX9_store_23 (fun H locs hw => ?_)
    exact fin_i C hw (Option.some.inj hf) (fun o => o.1) (fun o => (dO G ad o.2 dw ++ [])) rfl rfl dX9_store_26
  unfold f_X9_store at hf
  refine r_aload0 C hl 0 rfl dX9_store_0 ?_
  refine lv_iconst (v := 0) C.1 C.2.1 dX9_store_1 (by decide) ?_
  obtain ⟨d_ad1, e1, hf⟩ := bx hf
  refine r_put C hw _ (gx_h dO_o) 0 fp_X9_75 rfl rfl (Nat.le_of_ble_eq_true rfl) (dO G ad d_ad1 dw ++ []) (sx_h dO_o (dO_p0 e1)) dX9_store_2 (fun H locs hw => ?_)
  refine r_aload0 C hl 0 rfl dX9_store_5 ?_
  refine r_iload0 C hl 1 rfl dX9_store_6 ?_
  obtain ⟨u2, e2, hf⟩ := bx hf
  refine r_callVi (ws' := (dO G ad d_ad1 dw ++ [])) (As := [.int x1]) (rest := []) C hw hl.1 kX9_isPage ml_X9_374 (c_X9_isPage l G ad _ d_ad1 dw x1 u2 e2) (CutX.take dO_f CutX.none) _ (gx_h dO_o) rfl ⟨rfl, rfl⟩ ⟨Nat.le_of_ble_eq_true rfl, Nat.le_of_ble_eq_true rfl⟩ rfl ⟨Nat.zero_le _, Nat.zero_le _⟩ rfl (Nat.le_of_ble_eq_true rfl) dX9_store_7 (fun H locs hw => ?_)
  refine lv_if_eq (tgt := 21) C.1 C.2.1 dX9_store_10 (by decide) (fun hc => ?_) (fun hc => ?_)
  · replace hf := ifp hf hc
    exact hB_21  d_ad1 hf _ _ hw _ (lv_sub hl [0] rfl)
  · replace hf := ifn hf hc
    refine r_aload0 C hl 0 rfl dX9_store_13 ?_
    refine r_iload0 C hl 2 rfl dX9_store_14 ?_
    obtain ⟨u4, e4, hf⟩ := bx hf
    refine r_callVi (ws' := (dO G ad d_ad1 dw ++ [])) (As := [.int x2]) (rest := []) C hw hl.1 kX9_isData ml_X9_271 (c_X9_isData l G ad _ d_ad1 dw x2 u4 e4) (CutX.take dO_f CutX.none) _ (gx_h dO_o) rfl ⟨rfl, rfl⟩ ⟨Nat.le_of_ble_eq_true rfl, Nat.le_of_ble_eq_true rfl⟩ rfl ⟨Nat.zero_le _, Nat.zero_le _⟩ rfl (Nat.le_of_ble_eq_true rfl) dX9_store_15 (fun H locs hw => ?_)
    refine lv_if_ne (tgt := 27) C.1 C.2.1 dX9_store_18 (by decide) (fun hc => ?_) (fun hc => ?_)
    · replace hf := ifn hf hc
      refine r_aload0 C hl 0 rfl dX9_store_27 ?_
      obtain ⟨u5, e5, hf⟩ := bx hf
      refine r_callVv (ws' := (dO G ad u5 dw ++ [])) (As := []) (rest := []) C hw hl.1 kX9_remembers ml_X9_427 (c_X9_remembers l G ad _ d_ad1 dw u5 e5) (CutX.take dO_f CutX.none) _ (gx_h dO_o) rfl ⟨rfl, rfl⟩ ⟨Nat.le_of_ble_eq_true rfl, Nat.le_of_ble_eq_true rfl⟩ rfl ⟨Nat.zero_le _, Nat.zero_le _⟩ rfl (Nat.le_of_ble_eq_true rfl) dX9_store_28 (fun H locs hw => ?_)
      refine r_aload0 C hl 0 rfl dX9_store_31 ?_
      refine r_aload0 C hl 0 rfl dX9_store_32 ?_
      refine r_iload0 C hl 1 rfl dX9_store_33 ?_
      refine r_iload0 C hl 2 rfl dX9_store_34 ?_
      obtain ⟨u6, e6, hf⟩ := bx hf
      refine r_callVi (ws' := (dO G ad u6.2 dw ++ [])) (As := [.int x1, .int x2]) (rest := [.ref (ad 99)]) C hw hl.1 kX9_stores ml_X9_410 (c_X9_stores l G ad _ u5 dw x1 x2 u6 e6) (CutX.take dO_f CutX.none) _ (gx_h dO_o) rfl ⟨rfl, rfl⟩ ⟨Nat.le_of_ble_eq_true rfl, Nat.le_of_ble_eq_true rfl⟩ rfl ⟨Nat.zero_le _, Nat.zero_le _⟩ rfl (Nat.le_of_ble_eq_true rfl) dX9_store_35 (fun H locs hw => ?_)
      obtain ⟨u7, e7, hf⟩ := bx hf
      refine r_callVi (ws' := (dO G ad u7.2 dw ++ [])) (As := [.int u6.1]) (rest := []) C hw hl.1 kX9_good ml_X9_222 (c_X9_good l G ad _ u6.2 dw u6.1 u7 e7) (CutX.take dO_f CutX.none) _ (gx_h dO_o) rfl ⟨rfl, rfl⟩ ⟨Nat.le_of_ble_eq_true rfl, Nat.le_of_ble_eq_true rfl⟩ rfl ⟨Nat.zero_le _, Nat.zero_le _⟩ rfl (Nat.le_of_ble_eq_true rfl) dX9_store_38 (fun H locs hw => ?_)
      exact fin_i C hw (Option.some.inj hf) (fun o => o.1) (fun o => (dO G ad o.2 dw ++ [])) rfl rfl dX9_store_41
    · replace hf := ifp hf hc
      exact hB_21  d_ad1 hf _ _ hw _ (lv_sub hl [0] rfl)
set_option maxHeartbeats 4000000 in
set_option maxRecDepth 100000 in
theorem c_X9_load (l : Launch) (G : GG) (ad : Nat → Nat) (sz : Nat) (d_ad : Pic) (dw : Int64) (x1 : Int32) (out : Int32 × Pic) (hf : f_X9_load d_ad x1 = some out) : Met l yX9_load (.code yX9_load cX9_load 2 (some .int) :: BT) ({ frames := 3, cells := 0, slots := 0, locals := 66 }) (va_Pc [.ref (ad 99), .int x1] (PreW G sz (dO G ad d_ad dw ++ []))) (Ans G out.1 (va_A (dO G ad d_ad dw ++ []) sz) (dO G ad out.2 dw ++ [])) 0 0 (va_A (dO G ad d_ad dw ++ []) sz) := by
  refine Met.into (by decide) (Nat.le_of_ble_eq_true rfl) ?_
  intro p e s m below meth c C hsz ls hl hw
  have hl : lv_has ls 2 [(0, .ref (ad 99)), (1, .int x1)] := hl
  clear hsz
  generalize va_A (dO G ad d_ad dw ++ []) sz = A at hw ⊢
  unfold f_X9_load at hf
  refine r_aload0 C hl 0 rfl dX9_load_0 ?_
  refine lv_iconst (v := 0) C.1 C.2.1 dX9_load_1 (by decide) ?_
  obtain ⟨d_ad1, e1, hf⟩ := bx hf
  refine r_put C hw _ (gx_h dO_o) 0 fp_X9_75 rfl rfl (Nat.le_of_ble_eq_true rfl) (dO G ad d_ad1 dw ++ []) (sx_h dO_o (dO_p0 e1)) dX9_load_2 (fun H locs hw => ?_)
  refine r_aload0 C hl 0 rfl dX9_load_5 ?_
  refine r_iload0 C hl 1 rfl dX9_load_6 ?_
  obtain ⟨u2, e2, hf⟩ := bx hf
  refine r_callVi (ws' := (dO G ad d_ad1 dw ++ [])) (As := [.int x1]) (rest := []) C hw hl.1 kX9_isPage ml_X9_374 (c_X9_isPage l G ad _ d_ad1 dw x1 u2 e2) (CutX.take dO_f CutX.none) _ (gx_h dO_o) rfl ⟨rfl, rfl⟩ ⟨Nat.le_of_ble_eq_true rfl, Nat.le_of_ble_eq_true rfl⟩ rfl ⟨Nat.zero_le _, Nat.zero_le _⟩ rfl (Nat.le_of_ble_eq_true rfl) dX9_load_7 (fun H locs hw => ?_)
  refine lv_if_ne (tgt := 19) C.1 C.2.1 dX9_load_10 (by decide) (fun hc => ?_) (fun hc => ?_)
  · replace hf := ifn hf hc
    refine r_aload0 C hl 0 rfl dX9_load_19 ?_
    refine r_iload0 C hl 1 rfl dX9_load_20 ?_
    obtain ⟨u3, e3, hf⟩ := bx hf
    refine r_callVi (ws' := (dO G ad d_ad1 dw ++ [])) (As := [.int x1]) (rest := []) C hw hl.1 kX9_placeOf ml_X9_325 (c_X9_placeOf l G ad _ d_ad1 dw x1 u3 e3) (CutX.take dO_f CutX.none) _ (gx_h dO_o) rfl ⟨rfl, rfl⟩ ⟨Nat.le_of_ble_eq_true rfl, Nat.le_of_ble_eq_true rfl⟩ rfl ⟨Nat.zero_le _, Nat.zero_le _⟩ rfl (Nat.le_of_ble_eq_true rfl) dX9_load_21 (fun H locs hw => ?_)
    refine lv_if_ne (tgt := 33) C.1 C.2.1 dX9_load_24 (by decide) (fun hc => ?_) (fun hc => ?_)
    · replace hf := ifn hf hc
      refine r_aload0 C hl 0 rfl dX9_load_33 ?_
      obtain ⟨u4, e4, hf⟩ := bx hf
      refine r_callVv (ws' := (dO G ad u4 dw ++ [])) (As := []) (rest := []) C hw hl.1 kX9_remembers ml_X9_427 (c_X9_remembers l G ad _ d_ad1 dw u4 e4) (CutX.take dO_f CutX.none) _ (gx_h dO_o) rfl ⟨rfl, rfl⟩ ⟨Nat.le_of_ble_eq_true rfl, Nat.le_of_ble_eq_true rfl⟩ rfl ⟨Nat.zero_le _, Nat.zero_le _⟩ rfl (Nat.le_of_ble_eq_true rfl) dX9_load_34 (fun H locs hw => ?_)
      refine r_aload0 C hl 0 rfl dX9_load_37 ?_
      refine r_iload0 C hl 1 rfl dX9_load_38 ?_
      obtain ⟨u5, e5, hf⟩ := bx hf
      refine r_callVv (ws' := (dO G ad u5 dw ++ [])) (As := [.int x1]) (rest := []) C hw hl.1 kX9_loads ml_X9_417 (c_X9_loads l G ad _ u4 dw x1 u5 e5) (CutX.take dO_f CutX.none) _ (gx_h dO_o) rfl ⟨rfl, rfl⟩ ⟨Nat.le_of_ble_eq_true rfl, Nat.le_of_ble_eq_true rfl⟩ rfl ⟨Nat.zero_le _, Nat.zero_le _⟩ rfl (Nat.le_of_ble_eq_true rfl) dX9_load_39 (fun H locs hw => ?_)
      refine r_aload0 C hl 0 rfl dX9_load_42 ?_
      refine r_aload0 C hl 0 rfl dX9_load_43 ?_
      refine r_iload0 C hl 1 rfl dX9_load_44 ?_
      obtain ⟨u6, e6, hf⟩ := bx hf
      refine r_callVi (ws' := (dO G ad u5 dw ++ [])) (As := [.int x1]) (rest := [.ref (ad 99)]) C hw hl.1 kX9_placeOf ml_X9_325 (c_X9_placeOf l G ad _ u5 dw x1 u6 e6) (CutX.take dO_f CutX.none) _ (gx_h dO_o) rfl ⟨rfl, rfl⟩ ⟨Nat.le_of_ble_eq_true rfl, Nat.le_of_ble_eq_true rfl⟩ rfl ⟨Nat.zero_le _, Nat.zero_le _⟩ rfl (Nat.le_of_ble_eq_true rfl) dX9_load_45 (fun H locs hw => ?_)
      obtain ⟨u7, e7, hf⟩ := bx hf
      refine r_callVi (ws' := (dO G ad u7.2 dw ++ [])) (As := [.int u6]) (rest := []) C hw hl.1 kX9_good ml_X9_222 (c_X9_good l G ad _ u5 dw u6 u7 e7) (CutX.take dO_f CutX.none) _ (gx_h dO_o) rfl ⟨rfl, rfl⟩ ⟨Nat.le_of_ble_eq_true rfl, Nat.le_of_ble_eq_true rfl⟩ rfl ⟨Nat.zero_le _, Nat.zero_le _⟩ rfl (Nat.le_of_ble_eq_true rfl) dX9_load_48 (fun H locs hw => ?_)
      exact fin_i C hw (Option.some.inj hf) (fun o => o.1) (fun o => (dO G ad o.2 dw ++ [])) rfl rfl dX9_load_51
    · replace hf := ifp hf hc
      refine r_aload0 C hl 0 rfl dX9_load_27 ?_
      refine lv_iconst (v := 5) C.1 C.2.1 dX9_load_28 (by decide) ?_
      obtain ⟨u8, e8, hf⟩ := bx hf
      refine r_callVi (ws' := (dO G ad u8.2 dw ++ [])) (As := [.int 5]) (rest := []) C hw hl.1 kX9_refused ml_X9_210 (c_X9_refused l G ad _ d_ad1 dw 5 u8 e8) (CutX.take dO_f CutX.none) _ (gx_h dO_o) rfl ⟨rfl, rfl⟩ ⟨Nat.le_of_ble_eq_true rfl, Nat.le_of_ble_eq_true rfl⟩ rfl ⟨Nat.zero_le _, Nat.zero_le _⟩ rfl (Nat.le_of_ble_eq_true rfl) dX9_load_29 (fun H locs hw => ?_)
      exact fin_i C hw (Option.some.inj hf) (fun o => o.1) (fun o => (dO G ad o.2 dw ++ [])) rfl rfl dX9_load_32
  · replace hf := ifp hf hc
    refine r_aload0 C hl 0 rfl dX9_load_13 ?_
    refine lv_iconst (v := 1) C.1 C.2.1 dX9_load_14 (by decide) ?_
    obtain ⟨u9, e9, hf⟩ := bx hf
    refine r_callVi (ws' := (dO G ad u9.2 dw ++ [])) (As := [.int 1]) (rest := []) C hw hl.1 kX9_refused ml_X9_210 (c_X9_refused l G ad _ d_ad1 dw 1 u9 e9) (CutX.take dO_f CutX.none) _ (gx_h dO_o) rfl ⟨rfl, rfl⟩ ⟨Nat.le_of_ble_eq_true rfl, Nat.le_of_ble_eq_true rfl⟩ rfl ⟨Nat.zero_le _, Nat.zero_le _⟩ rfl (Nat.le_of_ble_eq_true rfl) dX9_load_15 (fun H locs hw => ?_)
    exact fin_i C hw (Option.some.inj hf) (fun o => o.1) (fun o => (dO G ad o.2 dw ++ [])) rfl rfl dX9_load_18
set_option maxHeartbeats 4000000 in
set_option maxRecDepth 100000 in
theorem c_X9_drop (l : Launch) (G : GG) (ad : Nat → Nat) (sz : Nat) (d_ad : Pic) (dw : Int64) (x1 : Int32) (out : Int32 × Pic) (hf : f_X9_drop d_ad x1 = some out) : Met l yX9_drop (.code yX9_drop cX9_drop 3 (some .int) :: BT) ({ frames := 4, cells := 0, slots := 0, locals := 87 }) (va_Pc [.ref (ad 99), .int x1] (PreW G sz (dO G ad d_ad dw ++ []))) (Ans G out.1 (va_A (dO G ad d_ad dw ++ []) sz) (dO G ad out.2 dw ++ [])) 0 0 (va_A (dO G ad d_ad dw ++ []) sz) := by
  refine Met.into (by decide) (Nat.le_of_ble_eq_true rfl) ?_
  intro p e s m below meth c C hsz ls hl hw
  have hl : lv_has ls 3 [(0, .ref (ad 99)), (1, .int x1)] := hl
  clear hsz
  generalize va_A (dO G ad d_ad dw ++ []) sz = A at hw ⊢
  unfold f_X9_drop at hf
  refine r_aload0 C hl 0 rfl dX9_drop_0 ?_
  refine lv_iconst (v := 0) C.1 C.2.1 dX9_drop_1 (by decide) ?_
  obtain ⟨d_ad1, e1, hf⟩ := bx hf
  refine r_put C hw _ (gx_h dO_o) 0 fp_X9_75 rfl rfl (Nat.le_of_ble_eq_true rfl) (dO G ad d_ad1 dw ++ []) (sx_h dO_o (dO_p0 e1)) dX9_drop_2 (fun H locs hw => ?_)
  refine r_aload0 C hl 0 rfl dX9_drop_5 ?_
  refine r_iload0 C hl 1 rfl dX9_drop_6 ?_
  obtain ⟨u2, e2, hf⟩ := bx hf
  refine r_callVi (ws' := (dO G ad d_ad1 dw ++ [])) (As := [.int x1]) (rest := []) C hw hl.1 kX9_isPage ml_X9_374 (c_X9_isPage l G ad _ d_ad1 dw x1 u2 e2) (CutX.take dO_f CutX.none) _ (gx_h dO_o) rfl ⟨rfl, rfl⟩ ⟨Nat.le_of_ble_eq_true rfl, Nat.le_of_ble_eq_true rfl⟩ rfl ⟨Nat.zero_le _, Nat.zero_le _⟩ rfl (Nat.le_of_ble_eq_true rfl) dX9_drop_7 (fun H locs hw => ?_)
  refine lv_if_ne (tgt := 19) C.1 C.2.1 dX9_drop_10 (by decide) (fun hc => ?_) (fun hc => ?_)
  · replace hf := ifn hf hc
    refine r_aload0 C hl 0 rfl dX9_drop_19 ?_
    refine r_iload0 C hl 1 rfl dX9_drop_20 ?_
    obtain ⟨u3, e3, hf⟩ := bx hf
    refine r_callVi (ws' := (dO G ad d_ad1 dw ++ [])) (As := [.int x1]) (rest := []) C hw hl.1 kX9_placeOf ml_X9_325 (c_X9_placeOf l G ad _ d_ad1 dw x1 u3 e3) (CutX.take dO_f CutX.none) _ (gx_h dO_o) rfl ⟨rfl, rfl⟩ ⟨Nat.le_of_ble_eq_true rfl, Nat.le_of_ble_eq_true rfl⟩ rfl ⟨Nat.zero_le _, Nat.zero_le _⟩ rfl (Nat.le_of_ble_eq_true rfl) dX9_drop_21 (fun H locs hw => ?_)
    refine lv_if_ne (tgt := 33) C.1 C.2.1 dX9_drop_24 (by decide) (fun hc => ?_) (fun hc => ?_)
    · replace hf := ifn hf hc
      refine r_aload0 C hl 0 rfl dX9_drop_33 ?_
      obtain ⟨u4, e4, hf⟩ := bx hf
      refine r_callVv (ws' := (dO G ad u4 dw ++ [])) (As := []) (rest := []) C hw hl.1 kX9_remembers ml_X9_427 (c_X9_remembers l G ad _ d_ad1 dw u4 e4) (CutX.take dO_f CutX.none) _ (gx_h dO_o) rfl ⟨rfl, rfl⟩ ⟨Nat.le_of_ble_eq_true rfl, Nat.le_of_ble_eq_true rfl⟩ rfl ⟨Nat.zero_le _, Nat.zero_le _⟩ rfl (Nat.le_of_ble_eq_true rfl) dX9_drop_34 (fun H locs hw => ?_)
      refine r_aload0 C hl 0 rfl dX9_drop_37 ?_
      refine r_iload0 C hl 1 rfl dX9_drop_38 ?_
      obtain ⟨u5, e5, hf⟩ := bx hf
      refine r_callVi (ws' := (dO G ad u4 dw ++ [])) (As := [.int x1]) (rest := []) C hw hl.1 kX9_placeOf ml_X9_325 (c_X9_placeOf l G ad _ u4 dw x1 u5 e5) (CutX.take dO_f CutX.none) _ (gx_h dO_o) rfl ⟨rfl, rfl⟩ ⟨Nat.le_of_ble_eq_true rfl, Nat.le_of_ble_eq_true rfl⟩ rfl ⟨Nat.zero_le _, Nat.zero_le _⟩ rfl (Nat.le_of_ble_eq_true rfl) dX9_drop_39 (fun H locs hw => ?_)
      refine r_istore0 C hl [(2, .int u5), (0, .ref (ad 99)), (1, .int x1)] (by decide) rfl dX9_drop_42 (fun ls hl => ?_)
      refine r_aload0 C hl 1 rfl dX9_drop_43 ?_
      refine r_iload0 C hl 2 rfl dX9_drop_44 ?_
      obtain ⟨u6, e6, hf⟩ := bx hf
      refine r_callVv (ws' := (dO G ad u6 dw ++ [])) (As := [.int x1]) (rest := []) C hw hl.1 kX9_dropsOne ml_X9_368 (c_X9_dropsOne l G ad _ u4 dw x1 u6 e6) (CutX.take dO_f CutX.none) _ (gx_h dO_o) rfl ⟨rfl, rfl⟩ ⟨Nat.le_of_ble_eq_true rfl, Nat.le_of_ble_eq_true rfl⟩ rfl ⟨Nat.zero_le _, Nat.zero_le _⟩ rfl (Nat.le_of_ble_eq_true rfl) dX9_drop_45 (fun H locs hw => ?_)
      refine r_aload0 C hl 1 rfl dX9_drop_48 ?_
      refine r_iload0 C hl 0 rfl dX9_drop_49 ?_
      obtain ⟨u7, e7, hf⟩ := bx hf
      refine r_callVi (ws' := (dO G ad u7.2 dw ++ [])) (As := [.int u5]) (rest := []) C hw hl.1 kX9_good ml_X9_222 (c_X9_good l G ad _ u6 dw u5 u7 e7) (CutX.take dO_f CutX.none) _ (gx_h dO_o) rfl ⟨rfl, rfl⟩ ⟨Nat.le_of_ble_eq_true rfl, Nat.le_of_ble_eq_true rfl⟩ rfl ⟨Nat.zero_le _, Nat.zero_le _⟩ rfl (Nat.le_of_ble_eq_true rfl) dX9_drop_50 (fun H locs hw => ?_)
      exact fin_i C hw (Option.some.inj hf) (fun o => o.1) (fun o => (dO G ad o.2 dw ++ [])) rfl rfl dX9_drop_53
    · replace hf := ifp hf hc
      refine r_aload0 C hl 0 rfl dX9_drop_27 ?_
      refine lv_iconst (v := 5) C.1 C.2.1 dX9_drop_28 (by decide) ?_
      obtain ⟨u8, e8, hf⟩ := bx hf
      refine r_callVi (ws' := (dO G ad u8.2 dw ++ [])) (As := [.int 5]) (rest := []) C hw hl.1 kX9_refused ml_X9_210 (c_X9_refused l G ad _ d_ad1 dw 5 u8 e8) (CutX.take dO_f CutX.none) _ (gx_h dO_o) rfl ⟨rfl, rfl⟩ ⟨Nat.le_of_ble_eq_true rfl, Nat.le_of_ble_eq_true rfl⟩ rfl ⟨Nat.zero_le _, Nat.zero_le _⟩ rfl (Nat.le_of_ble_eq_true rfl) dX9_drop_29 (fun H locs hw => ?_)
      exact fin_i C hw (Option.some.inj hf) (fun o => o.1) (fun o => (dO G ad o.2 dw ++ [])) rfl rfl dX9_drop_32
  · replace hf := ifp hf hc
    refine r_aload0 C hl 0 rfl dX9_drop_13 ?_
    refine lv_iconst (v := 1) C.1 C.2.1 dX9_drop_14 (by decide) ?_
    obtain ⟨u9, e9, hf⟩ := bx hf
    refine r_callVi (ws' := (dO G ad u9.2 dw ++ [])) (As := [.int 1]) (rest := []) C hw hl.1 kX9_refused ml_X9_210 (c_X9_refused l G ad _ d_ad1 dw 1 u9 e9) (CutX.take dO_f CutX.none) _ (gx_h dO_o) rfl ⟨rfl, rfl⟩ ⟨Nat.le_of_ble_eq_true rfl, Nat.le_of_ble_eq_true rfl⟩ rfl ⟨Nat.zero_le _, Nat.zero_le _⟩ rfl (Nat.le_of_ble_eq_true rfl) dX9_drop_15 (fun H locs hw => ?_)
    exact fin_i C hw (Option.some.inj hf) (fun o => o.1) (fun o => (dO G ad o.2 dw ++ [])) rfl rfl dX9_drop_18
set_option maxHeartbeats 4000000 in
set_option maxRecDepth 100000 in
theorem c_X9_denied (l : Launch) (G : GG) (ad : Nat → Nat) (sz : Nat) (d_ad : Pic) (dw : Int64) (x1 : Int32) (out : Int32 × Pic) (hf : f_X9_denied d_ad x1 = some out) : Met l yX9_denied (.code yX9_denied cX9_denied 2 (some .boolean) :: BT) ({ frames := 1, cells := 0, slots := 0, locals := 21 }) (va_Pc [.ref (ad 99), .int x1] (PreW G sz (dO G ad d_ad dw ++ []))) (Ans G out.1 (va_A (dO G ad d_ad dw ++ []) sz) (dO G ad out.2 dw ++ [])) 0 0 (va_A (dO G ad d_ad dw ++ []) sz) := by
  refine Met.into (by decide) (Nat.le_of_ble_eq_true rfl) ?_
  intro p e s m below meth c C hsz ls hl hw
  have hl : lv_has ls 2 [(0, .ref (ad 99)), (1, .int x1)] := hl
  clear hsz
  generalize va_A (dO G ad d_ad dw ++ []) sz = A at hw ⊢
  unfold f_X9_denied at hf
  refine r_aload0 C hl 0 rfl dX9_denied_0 ?_
  refine r_iload0 C hl 1 rfl dX9_denied_1 ?_
  obtain ⟨u1, e1, hf⟩ := bx hf
  refine r_callVi (ws' := (dO G ad u1.2 dw ++ [])) (As := [.int x1]) (rest := []) C hw hl.1 kX9_refused ml_X9_210 (c_X9_refused l G ad _ d_ad dw x1 u1 e1) (CutX.take dO_f CutX.none) _ (gx_h dO_o) rfl ⟨rfl, rfl⟩ ⟨Nat.le_of_ble_eq_true rfl, Nat.le_of_ble_eq_true rfl⟩ rfl ⟨Nat.zero_le _, Nat.zero_le _⟩ rfl (Nat.le_of_ble_eq_true rfl) dX9_denied_2 (fun H locs hw => ?_)
  refine lv_pop C.1 C.2.1 dX9_denied_5 rfl ?_
  refine lv_iconst (v := 0) C.1 C.2.1 dX9_denied_6 (by decide) ?_
  exact fin_z C hw (by decide) (Option.some.inj hf) (fun o => o.1) (fun o => (dO G ad o.2 dw ++ [])) rfl rfl dX9_denied_7
set_option maxHeartbeats 4000000 in
set_option maxRecDepth 100000 in
theorem c_X9_turnsHeld (l : Launch) (G : GG) (ad : Nat → Nat) (sz : Nat) (d_ad : Pic) (dw : Int64) (x1 x2 : Int32) (out : Int32 × Pic) (hf : f_X9_turnsHeld d_ad x1 x2 = some out) : Met l yX9_turnsHeld (.code yX9_turnsHeld cX9_turnsHeld 3 (some .boolean) :: BT) ({ frames := 1, cells := 0, slots := 0, locals := 21 }) (va_Pc [.ref (ad 99), .int x1, .int x2] (PreW G sz (dO G ad d_ad dw ++ []))) (Ans G out.1 (va_A (dO G ad d_ad dw ++ []) sz) (dO G ad out.2 dw ++ [])) 0 0 (va_A (dO G ad d_ad dw ++ []) sz) := by
  refine Met.into (by decide) (Nat.le_of_ble_eq_true rfl) ?_
  intro p e s m below meth c C hsz ls hl hw
  have hl : lv_has ls 3 [(0, .ref (ad 99)), (1, .int x1), (2, .int x2)] := hl
  clear hsz
  generalize va_A (dO G ad d_ad dw ++ []) sz = A at hw ⊢
  unfold f_X9_turnsHeld at hf
  refine r_aload0 C hl 0 rfl dX9_turnsHeld_0 ?_
  obtain ⟨u1, e1, hf⟩ := bx hf
  refine r_callVv (ws' := (dO G ad u1 dw ++ [])) (As := []) (rest := []) C hw hl.1 kX9_remembers ml_X9_427 (c_X9_remembers l G ad _ d_ad dw u1 e1) (CutX.take dO_f CutX.none) _ (gx_h dO_o) rfl ⟨rfl, rfl⟩ ⟨Nat.le_of_ble_eq_true rfl, Nat.le_of_ble_eq_true rfl⟩ rfl ⟨Nat.zero_le _, Nat.zero_le _⟩ rfl (Nat.le_of_ble_eq_true rfl) dX9_turnsHeld_1 (fun H locs hw => ?_)
  refine r_aload0 C hl 0 rfl dX9_turnsHeld_4 ?_
  refine r_get C hw _ (gx_h dO_o) 20 fl_X9_35 rfl dX9_turnsHeld_5 ?_
  refine lv_sipush (v := 1204) C.1 C.2.1 dX9_turnsHeld_8 (by decide) ?_
  refine r_iload0 C hl 1 rfl dX9_turnsHeld_11 ?_
  refine lv_iadd C.1 C.2.1 dX9_turnsHeld_12 ?_
  refine r_iload0 C hl 2 rfl dX9_turnsHeld_13 ?_
  obtain ⟨d_ad2, e2, hf⟩ := bx hf
  refine r_iast C hw _ (gx_h dO_g20) e2 (dO G ad d_ad2 dw ++ []) (fun h => (sx_h dO_g20 (dO_s20 h))) dX9_turnsHeld_14 (fun H locs hw => ?_)
  refine r_aload0 C hl 0 rfl dX9_turnsHeld_15 ?_
  refine lv_iconst (v := 0) C.1 C.2.1 dX9_turnsHeld_16 (by decide) ?_
  obtain ⟨u3, e3, hf⟩ := bx hf
  refine r_callVi (ws' := (dO G ad u3.2 dw ++ [])) (As := [.int 0]) (rest := []) C hw hl.1 kX9_good ml_X9_222 (c_X9_good l G ad _ d_ad2 dw 0 u3 e3) (CutX.take dO_f CutX.none) _ (gx_h dO_o) rfl ⟨rfl, rfl⟩ ⟨Nat.le_of_ble_eq_true rfl, Nat.le_of_ble_eq_true rfl⟩ rfl ⟨Nat.zero_le _, Nat.zero_le _⟩ rfl (Nat.le_of_ble_eq_true rfl) dX9_turnsHeld_17 (fun H locs hw => ?_)
  refine lv_pop C.1 C.2.1 dX9_turnsHeld_20 rfl ?_
  refine lv_iconst (v := 1) C.1 C.2.1 dX9_turnsHeld_21 (by decide) ?_
  exact fin_z C hw (by decide) (Option.some.inj hf) (fun o => o.1) (fun o => (dO G ad o.2 dw ++ [])) rfl rfl dX9_turnsHeld_22
set_option maxHeartbeats 4000000 in
set_option maxRecDepth 100000 in
theorem c_X9_hold (l : Launch) (G : GG) (ad : Nat → Nat) (sz : Nat) (d_ad : Pic) (dw : Int64) (x1 : Int32) (out : Int32 × Pic) (hf : f_X9_hold d_ad x1 = some out) : Met l yX9_hold (.code yX9_hold cX9_hold 2 (some .boolean) :: BT) ({ frames := 2, cells := 0, slots := 0, locals := 43 }) (va_Pc [.ref (ad 99), .int x1] (PreW G sz (dO G ad d_ad dw ++ []))) (Ans G out.1 (va_A (dO G ad d_ad dw ++ []) sz) (dO G ad out.2 dw ++ [])) 0 0 (va_A (dO G ad d_ad dw ++ []) sz) := by
  refine Met.into (by decide) (Nat.le_of_ble_eq_true rfl) ?_
  intro p e s m below meth c C hsz ls hl hw
  have hl : lv_has ls 2 [(0, .ref (ad 99)), (1, .int x1)] := hl
  clear hsz
  generalize va_A (dO G ad d_ad dw ++ []) sz = A at hw ⊢
  have hB_36 : ∀ (d_ad : Pic), b_X9_hold_36 x1  d_ad = some out → ∀ (H : Heap) (locs : List Loc), Wd G A s H locs (dO G ad d_ad dw ++ []) → ∀ ls : Array Slot, lv_has ls 2 [(0, .ref (ad 99))] → W p l e ({ frames := 2, cells := 0, slots := 0, locals := 43 }) s m [.ref (ad 99), .int x1].toArray below meth c H locs 0 0 (MQ below (Ans G out.1 A (dO G ad out.2 dw ++ [])) [.ref (ad 99), .int x1].toArray s 0 0 A) (F0 m 36 ls []) := by
    intro d_ad hf H locs hw ls hl
    unfold b_X9_hold_36 at hf
    refine r_aload0 C hl 0 rfl dX9_hold_36 ?_
    refine lv_iconst (v := 5) C.1 C.2.1 dX9_hold_37 (by decide) ?_
    obtain ⟨u4, e4, hf⟩ := bx hf
    refine r_callVi (ws' := (dO G ad u4.2 dw ++ [])) (As := [.int 5]) (rest := []) C hw hl.1 kX9_denied ml_X9_430 (c_X9_denied l G ad _ d_ad dw 5 u4 e4) (CutX.take dO_f CutX.none) _ (gx_h dO_o) rfl ⟨rfl, rfl⟩ ⟨Nat.le_of_ble_eq_true rfl, Nat.le_of_ble_eq_true rfl⟩ rfl ⟨Nat.zero_le _, Nat.zero_le _⟩ rfl (Nat.le_of_ble_eq_true rfl) dX9_hold_38 (fun H locs hw => ?_)
    refine lv_goto (tgt := 50) C.1 C.2.1 dX9_hold_41 (by decide) ?_
    obtain ⟨z5_, e5, hf⟩ := bx hf
    obtain rfl := okZ_in e5
    exact fin_z C hw e5 (Option.some.inj hf) (fun o => o.1) (fun o => (dO G ad o.2 dw ++ [])) rfl rfl dX9_hold_50
  unfold f_X9_hold at hf
  refine r_aload0 C hl 0 rfl dX9_hold_0 ?_
  refine lv_iconst (v := 0) C.1 C.2.1 dX9_hold_1 (by decide) ?_
  obtain ⟨d_ad1, e1, hf⟩ := bx hf
  refine r_put C hw _ (gx_h dO_o) 0 fp_X9_75 rfl rfl (Nat.le_of_ble_eq_true rfl) (dO G ad d_ad1 dw ++ []) (sx_h dO_o (dO_p0 e1)) dX9_hold_2 (fun H locs hw => ?_)
  refine r_aload0 C hl 0 rfl dX9_hold_5 ?_
  refine r_iload0 C hl 1 rfl dX9_hold_6 ?_
  obtain ⟨u2, e2, hf⟩ := bx hf
  refine r_callVi (ws' := (dO G ad d_ad1 dw ++ [])) (As := [.int x1]) (rest := []) C hw hl.1 kX9_isPage ml_X9_374 (c_X9_isPage l G ad _ d_ad1 dw x1 u2 e2) (CutX.take dO_f CutX.none) _ (gx_h dO_o) rfl ⟨rfl, rfl⟩ ⟨Nat.le_of_ble_eq_true rfl, Nat.le_of_ble_eq_true rfl⟩ rfl ⟨Nat.zero_le _, Nat.zero_le _⟩ rfl (Nat.le_of_ble_eq_true rfl) dX9_hold_7 (fun H locs hw => ?_)
  refine lv_if_ne (tgt := 19) C.1 C.2.1 dX9_hold_10 (by decide) (fun hc => ?_) (fun hc => ?_)
  · replace hf := ifn hf hc
    refine r_aload0 C hl 0 rfl dX9_hold_19 ?_
    refine r_iload0 C hl 1 rfl dX9_hold_20 ?_
    obtain ⟨u3, e3, hf⟩ := bx hf
    refine r_callVi (ws' := (dO G ad d_ad1 dw ++ [])) (As := [.int x1]) (rest := []) C hw hl.1 kX9_placeOf ml_X9_325 (c_X9_placeOf l G ad _ d_ad1 dw x1 u3 e3) (CutX.take dO_f CutX.none) _ (gx_h dO_o) rfl ⟨rfl, rfl⟩ ⟨Nat.le_of_ble_eq_true rfl, Nat.le_of_ble_eq_true rfl⟩ rfl ⟨Nat.zero_le _, Nat.zero_le _⟩ rfl (Nat.le_of_ble_eq_true rfl) dX9_hold_21 (fun H locs hw => ?_)
    refine lv_iconst (v := 2) C.1 C.2.1 dX9_hold_24 (by decide) ?_
    refine lv_icmp_ne (tgt := 36) C.1 C.2.1 dX9_hold_25 (by decide) (fun hc => ?_) (fun hc => ?_)
    · replace hf := ifn hf hc
      exact hB_36  d_ad1 hf _ _ hw _ (lv_sub hl [0] rfl)
    · replace hf := ifp hf hc
      refine r_aload0 C hl 0 rfl dX9_hold_28 ?_
      refine r_iload0 C hl 1 rfl dX9_hold_29 ?_
      obtain ⟨u6, e6, hf⟩ := bx hf
      refine r_callVi (ws' := (dO G ad d_ad1 dw ++ [])) (As := [.int x1]) (rest := []) C hw hl.1 kX9_isHeld ml_X9_334 (c_X9_isHeld l G ad _ d_ad1 dw x1 u6 e6) (CutX.take dO_f CutX.none) _ (gx_h dO_o) rfl ⟨rfl, rfl⟩ ⟨Nat.le_of_ble_eq_true rfl, Nat.le_of_ble_eq_true rfl⟩ rfl ⟨Nat.zero_le _, Nat.zero_le _⟩ rfl (Nat.le_of_ble_eq_true rfl) dX9_hold_30 (fun H locs hw => ?_)
      refine lv_if_eq (tgt := 44) C.1 C.2.1 dX9_hold_33 (by decide) (fun hc => ?_) (fun hc => ?_)
      · replace hf := ifp hf hc
        refine r_aload0 C hl 0 rfl dX9_hold_44 ?_
        refine r_iload0 C hl 1 rfl dX9_hold_45 ?_
        refine lv_iconst (v := 1) C.1 C.2.1 dX9_hold_46 (by decide) ?_
        obtain ⟨u7, e7, hf⟩ := bx hf
        refine r_callVi (ws' := (dO G ad u7.2 dw ++ [])) (As := [.int x1, .int 1]) (rest := []) C hw hl.1 kX9_turnsHeld ml_X9_433 (c_X9_turnsHeld l G ad _ d_ad1 dw x1 1 u7 e7) (CutX.take dO_f CutX.none) _ (gx_h dO_o) rfl ⟨rfl, rfl⟩ ⟨Nat.le_of_ble_eq_true rfl, Nat.le_of_ble_eq_true rfl⟩ rfl ⟨Nat.zero_le _, Nat.zero_le _⟩ rfl (Nat.le_of_ble_eq_true rfl) dX9_hold_47 (fun H locs hw => ?_)
        obtain ⟨z8_, e8, hf⟩ := bx hf
        obtain rfl := okZ_in e8
        exact fin_z C hw e8 (Option.some.inj hf) (fun o => o.1) (fun o => (dO G ad o.2 dw ++ [])) rfl rfl dX9_hold_50
      · replace hf := ifn hf hc
        exact hB_36  d_ad1 hf _ _ hw _ (lv_sub hl [0] rfl)
  · replace hf := ifp hf hc
    refine r_aload0 C hl 0 rfl dX9_hold_13 ?_
    refine lv_iconst (v := 1) C.1 C.2.1 dX9_hold_14 (by decide) ?_
    obtain ⟨u9, e9, hf⟩ := bx hf
    refine r_callVi (ws' := (dO G ad u9.2 dw ++ [])) (As := [.int 1]) (rest := []) C hw hl.1 kX9_denied ml_X9_430 (c_X9_denied l G ad _ d_ad1 dw 1 u9 e9) (CutX.take dO_f CutX.none) _ (gx_h dO_o) rfl ⟨rfl, rfl⟩ ⟨Nat.le_of_ble_eq_true rfl, Nat.le_of_ble_eq_true rfl⟩ rfl ⟨Nat.zero_le _, Nat.zero_le _⟩ rfl (Nat.le_of_ble_eq_true rfl) dX9_hold_15 (fun H locs hw => ?_)
    obtain ⟨z10_, e10, hf⟩ := bx hf
    obtain rfl := okZ_in e10
    exact fin_z C hw e10 (Option.some.inj hf) (fun o => o.1) (fun o => (dO G ad o.2 dw ++ [])) rfl rfl dX9_hold_18
set_option maxHeartbeats 4000000 in
set_option maxRecDepth 100000 in
theorem c_X9_release (l : Launch) (G : GG) (ad : Nat → Nat) (sz : Nat) (d_ad : Pic) (dw : Int64) (x1 : Int32) (out : Int32 × Pic) (hf : f_X9_release d_ad x1 = some out) : Met l yX9_release (.code yX9_release cX9_release 2 (some .boolean) :: BT) ({ frames := 2, cells := 0, slots := 0, locals := 43 }) (va_Pc [.ref (ad 99), .int x1] (PreW G sz (dO G ad d_ad dw ++ []))) (Ans G out.1 (va_A (dO G ad d_ad dw ++ []) sz) (dO G ad out.2 dw ++ [])) 0 0 (va_A (dO G ad d_ad dw ++ []) sz) := by
  refine Met.into (by decide) (Nat.le_of_ble_eq_true rfl) ?_
  intro p e s m below meth c C hsz ls hl hw
  have hl : lv_has ls 2 [(0, .ref (ad 99)), (1, .int x1)] := hl
  clear hsz
  generalize va_A (dO G ad d_ad dw ++ []) sz = A at hw ⊢
  unfold f_X9_release at hf
  refine r_aload0 C hl 0 rfl dX9_release_0 ?_
  refine lv_iconst (v := 0) C.1 C.2.1 dX9_release_1 (by decide) ?_
  obtain ⟨d_ad1, e1, hf⟩ := bx hf
  refine r_put C hw _ (gx_h dO_o) 0 fp_X9_75 rfl rfl (Nat.le_of_ble_eq_true rfl) (dO G ad d_ad1 dw ++ []) (sx_h dO_o (dO_p0 e1)) dX9_release_2 (fun H locs hw => ?_)
  refine r_aload0 C hl 0 rfl dX9_release_5 ?_
  refine r_iload0 C hl 1 rfl dX9_release_6 ?_
  obtain ⟨u2, e2, hf⟩ := bx hf
  refine r_callVi (ws' := (dO G ad d_ad1 dw ++ [])) (As := [.int x1]) (rest := []) C hw hl.1 kX9_isPage ml_X9_374 (c_X9_isPage l G ad _ d_ad1 dw x1 u2 e2) (CutX.take dO_f CutX.none) _ (gx_h dO_o) rfl ⟨rfl, rfl⟩ ⟨Nat.le_of_ble_eq_true rfl, Nat.le_of_ble_eq_true rfl⟩ rfl ⟨Nat.zero_le _, Nat.zero_le _⟩ rfl (Nat.le_of_ble_eq_true rfl) dX9_release_7 (fun H locs hw => ?_)
  refine lv_if_ne (tgt := 19) C.1 C.2.1 dX9_release_10 (by decide) (fun hc => ?_) (fun hc => ?_)
  · replace hf := ifn hf hc
    refine r_aload0 C hl 0 rfl dX9_release_19 ?_
    refine r_iload0 C hl 1 rfl dX9_release_20 ?_
    obtain ⟨u3, e3, hf⟩ := bx hf
    refine r_callVi (ws' := (dO G ad d_ad1 dw ++ [])) (As := [.int x1]) (rest := []) C hw hl.1 kX9_isHeld ml_X9_334 (c_X9_isHeld l G ad _ d_ad1 dw x1 u3 e3) (CutX.take dO_f CutX.none) _ (gx_h dO_o) rfl ⟨rfl, rfl⟩ ⟨Nat.le_of_ble_eq_true rfl, Nat.le_of_ble_eq_true rfl⟩ rfl ⟨Nat.zero_le _, Nat.zero_le _⟩ rfl (Nat.le_of_ble_eq_true rfl) dX9_release_21 (fun H locs hw => ?_)
    refine lv_if_eq (tgt := 36) C.1 C.2.1 dX9_release_24 (by decide) (fun hc => ?_) (fun hc => ?_)
    · replace hf := ifp hf hc
      refine r_aload0 C hl 0 rfl dX9_release_36 ?_
      refine lv_iconst (v := 5) C.1 C.2.1 dX9_release_37 (by decide) ?_
      obtain ⟨u4, e4, hf⟩ := bx hf
      refine r_callVi (ws' := (dO G ad u4.2 dw ++ [])) (As := [.int 5]) (rest := []) C hw hl.1 kX9_denied ml_X9_430 (c_X9_denied l G ad _ d_ad1 dw 5 u4 e4) (CutX.take dO_f CutX.none) _ (gx_h dO_o) rfl ⟨rfl, rfl⟩ ⟨Nat.le_of_ble_eq_true rfl, Nat.le_of_ble_eq_true rfl⟩ rfl ⟨Nat.zero_le _, Nat.zero_le _⟩ rfl (Nat.le_of_ble_eq_true rfl) dX9_release_38 (fun H locs hw => ?_)
      obtain ⟨z5_, e5, hf⟩ := bx hf
      obtain rfl := okZ_in e5
      exact fin_z C hw e5 (Option.some.inj hf) (fun o => o.1) (fun o => (dO G ad o.2 dw ++ [])) rfl rfl dX9_release_41
    · replace hf := ifn hf hc
      refine r_aload0 C hl 0 rfl dX9_release_27 ?_
      refine r_iload0 C hl 1 rfl dX9_release_28 ?_
      refine lv_iconst (v := 0) C.1 C.2.1 dX9_release_29 (by decide) ?_
      obtain ⟨u6, e6, hf⟩ := bx hf
      refine r_callVi (ws' := (dO G ad u6.2 dw ++ [])) (As := [.int x1, .int 0]) (rest := []) C hw hl.1 kX9_turnsHeld ml_X9_433 (c_X9_turnsHeld l G ad _ d_ad1 dw x1 0 u6 e6) (CutX.take dO_f CutX.none) _ (gx_h dO_o) rfl ⟨rfl, rfl⟩ ⟨Nat.le_of_ble_eq_true rfl, Nat.le_of_ble_eq_true rfl⟩ rfl ⟨Nat.zero_le _, Nat.zero_le _⟩ rfl (Nat.le_of_ble_eq_true rfl) dX9_release_30 (fun H locs hw => ?_)
      refine lv_goto (tgt := 41) C.1 C.2.1 dX9_release_33 (by decide) ?_
      obtain ⟨z7_, e7, hf⟩ := bx hf
      obtain rfl := okZ_in e7
      exact fin_z C hw e7 (Option.some.inj hf) (fun o => o.1) (fun o => (dO G ad o.2 dw ++ [])) rfl rfl dX9_release_41
  · replace hf := ifp hf hc
    refine r_aload0 C hl 0 rfl dX9_release_13 ?_
    refine lv_iconst (v := 1) C.1 C.2.1 dX9_release_14 (by decide) ?_
    obtain ⟨u8, e8, hf⟩ := bx hf
    refine r_callVi (ws' := (dO G ad u8.2 dw ++ [])) (As := [.int 1]) (rest := []) C hw hl.1 kX9_denied ml_X9_430 (c_X9_denied l G ad _ d_ad1 dw 1 u8 e8) (CutX.take dO_f CutX.none) _ (gx_h dO_o) rfl ⟨rfl, rfl⟩ ⟨Nat.le_of_ble_eq_true rfl, Nat.le_of_ble_eq_true rfl⟩ rfl ⟨Nat.zero_le _, Nat.zero_le _⟩ rfl (Nat.le_of_ble_eq_true rfl) dX9_release_15 (fun H locs hw => ?_)
    obtain ⟨z9_, e9, hf⟩ := bx hf
    obtain rfl := okZ_in e9
    exact fin_z C hw e9 (Option.some.inj hf) (fun o => o.1) (fun o => (dO G ad o.2 dw ++ [])) rfl rfl dX9_release_18
set_option maxHeartbeats 4000000 in
set_option maxRecDepth 100000 in
theorem c_X9_poke (l : Launch) (G : GG) (ad : Nat → Nat) (sz : Nat) (d_ad : Pic) (dw : Int64) (x1 x2 x3 : Int32) (out : Int32 × Pic) (hf : f_X9_poke d_ad x1 x2 x3 = some out) : Met l yX9_poke (.code yX9_poke cX9_poke 5 (some .int) :: BT) ({ frames := 1, cells := 0, slots := 0, locals := 22 }) (va_Pc [.ref (ad 99), .int x1, .int x2, .int x3] (PreW G sz (dO G ad d_ad dw ++ []))) (Ans G out.1 (va_A (dO G ad d_ad dw ++ []) sz) (dO G ad out.2 dw ++ [])) 0 0 (va_A (dO G ad d_ad dw ++ []) sz) := by
  refine Met.into (by decide) (Nat.le_of_ble_eq_true rfl) ?_
  intro p e s m below meth c C hsz ls hl hw
  have hl : lv_has ls 5 [(0, .ref (ad 99)), (1, .int x1), (2, .int x2), (3, .int x3)] := hl
  clear hsz
  generalize va_A (dO G ad d_ad dw ++ []) sz = A at hw ⊢
  have hB_23 : ∀ (d_ad : Pic), b_X9_poke_23 x1 x2 x3  d_ad = some out → ∀ (H : Heap) (locs : List Loc), Wd G A s H locs (dO G ad d_ad dw ++ []) → ∀ ls : Array Slot, lv_has ls 5 [(0, .ref (ad 99))] → W p l e ({ frames := 1, cells := 0, slots := 0, locals := 22 }) s m [.ref (ad 99), .int x1, .int x2, .int x3].toArray below meth c H locs 0 0 (MQ below (Ans G out.1 A (dO G ad out.2 dw ++ [])) [.ref (ad 99), .int x1, .int x2, .int x3].toArray s 0 0 A) (F0 m 23 ls []) := by
    intro d_ad hf H locs hw ls hl
    unfold b_X9_poke_23 at hf
    refine r_aload0 C hl 0 rfl dX9_poke_23 ?_
    refine lv_iconst (v := 1) C.1 C.2.1 dX9_poke_24 (by decide) ?_
    obtain ⟨u3, e3, hf⟩ := bx hf
    refine r_callVi (ws' := (dO G ad u3.2 dw ++ [])) (As := [.int 1]) (rest := []) C hw hl.1 kX9_refused ml_X9_210 (c_X9_refused l G ad _ d_ad dw 1 u3 e3) (CutX.take dO_f CutX.none) _ (gx_h dO_o) rfl ⟨rfl, rfl⟩ ⟨Nat.le_of_ble_eq_true rfl, Nat.le_of_ble_eq_true rfl⟩ rfl ⟨Nat.zero_le _, Nat.zero_le _⟩ rfl (Nat.le_of_ble_eq_true rfl) dX9_poke_25 (fun H locs hw => ?_)
    exact fin_i C hw (Option.some.inj hf) (fun o => o.1) (fun o => (dO G ad o.2 dw ++ [])) rfl rfl dX9_poke_28
  unfold f_X9_poke at hf
  refine r_aload0 C hl 0 rfl dX9_poke_0 ?_
  refine lv_iconst (v := 0) C.1 C.2.1 dX9_poke_1 (by decide) ?_
  obtain ⟨d_ad1, e1, hf⟩ := bx hf
  refine r_put C hw _ (gx_h dO_o) 0 fp_X9_75 rfl rfl (Nat.le_of_ble_eq_true rfl) (dO G ad d_ad1 dw ++ []) (sx_h dO_o (dO_p0 e1)) dX9_poke_2 (fun H locs hw => ?_)
  refine r_aload0 C hl 0 rfl dX9_poke_5 ?_
  refine r_iload0 C hl 1 rfl dX9_poke_6 ?_
  obtain ⟨u2, e2, hf⟩ := bx hf
  refine r_callVi (ws' := (dO G ad d_ad1 dw ++ [])) (As := [.int x1]) (rest := []) C hw hl.1 kX9_isData ml_X9_271 (c_X9_isData l G ad _ d_ad1 dw x1 u2 e2) (CutX.take dO_f CutX.none) _ (gx_h dO_o) rfl ⟨rfl, rfl⟩ ⟨Nat.le_of_ble_eq_true rfl, Nat.le_of_ble_eq_true rfl⟩ rfl ⟨Nat.zero_le _, Nat.zero_le _⟩ rfl (Nat.le_of_ble_eq_true rfl) dX9_poke_7 (fun H locs hw => ?_)
  refine lv_if_eq (tgt := 23) C.1 C.2.1 dX9_poke_10 (by decide) (fun hc => ?_) (fun hc => ?_)
  · replace hf := ifp hf hc
    exact hB_23  d_ad1 hf _ _ hw _ (lv_sub hl [0] rfl)
  · replace hf := ifn hf hc
    refine r_iload0 C hl 2 rfl dX9_poke_13 ?_
    refine lv_iconst (v := 0) C.1 C.2.1 dX9_poke_14 (by decide) ?_
    refine lv_bipush (v := 15) C.1 C.2.1 dX9_poke_15 (by decide) ?_
    obtain ⟨u4, e4, hf⟩ := bx hf
    refine r_callSi (ws' := (dO G ad d_ad1 dw ++ [])) (As := [.int x2, .int 0, .int 15]) (rest := []) C hw hl.1 kX9_in ml_X9_100 (c_X9_in l G _ x2 0 15 u4 e4) CutX.none ⟨rfl, rfl⟩ ⟨Nat.le_of_ble_eq_true rfl, Nat.le_of_ble_eq_true rfl⟩ rfl ⟨Nat.zero_le _, Nat.zero_le _⟩ rfl (Nat.le_of_ble_eq_true rfl) dX9_poke_17 (fun H locs hw => ?_)
    refine lv_if_ne (tgt := 29) C.1 C.2.1 dX9_poke_20 (by decide) (fun hc => ?_) (fun hc => ?_)
    · replace hf := ifn hf hc
      refine r_iload0 C hl 3 rfl dX9_poke_29 ?_
      refine lv_iconst (v := 0) C.1 C.2.1 dX9_poke_30 (by decide) ?_
      refine lv_bipush (v := 99) C.1 C.2.1 dX9_poke_31 (by decide) ?_
      obtain ⟨u5, e5, hf⟩ := bx hf
      refine r_callSi (ws' := (dO G ad d_ad1 dw ++ [])) (As := [.int x3, .int 0, .int 99]) (rest := []) C hw hl.1 kX9_in ml_X9_100 (c_X9_in l G _ x3 0 99 u5 e5) CutX.none ⟨rfl, rfl⟩ ⟨Nat.le_of_ble_eq_true rfl, Nat.le_of_ble_eq_true rfl⟩ rfl ⟨Nat.zero_le _, Nat.zero_le _⟩ rfl (Nat.le_of_ble_eq_true rfl) dX9_poke_33 (fun H locs hw => ?_)
      refine lv_if_ne (tgt := 45) C.1 C.2.1 dX9_poke_36 (by decide) (fun hc => ?_) (fun hc => ?_)
      · replace hf := ifn hf hc
        refine r_aload0 C hl 0 rfl dX9_poke_45 ?_
        obtain ⟨u6, e6, hf⟩ := bx hf
        refine r_callVv (ws' := (dO G ad u6 dw ++ [])) (As := []) (rest := []) C hw hl.1 kX9_remembers ml_X9_427 (c_X9_remembers l G ad _ d_ad1 dw u6 e6) (CutX.take dO_f CutX.none) _ (gx_h dO_o) rfl ⟨rfl, rfl⟩ ⟨Nat.le_of_ble_eq_true rfl, Nat.le_of_ble_eq_true rfl⟩ rfl ⟨Nat.zero_le _, Nat.zero_le _⟩ rfl (Nat.le_of_ble_eq_true rfl) dX9_poke_46 (fun H locs hw => ?_)
        refine r_aload0 C hl 0 rfl dX9_poke_49 ?_
        refine r_get C hw _ (gx_h dO_o) 20 fl_X9_35 rfl dX9_poke_50 ?_
        refine r_iload0 C hl 1 rfl dX9_poke_53 ?_
        obtain ⟨u7, e7, hf⟩ := bx hf
        refine r_callSi (ws' := (dO G ad u6 dw ++ [])) (As := [.int x1]) (rest := [.ref (ad 20)]) C hw hl.1 kX9_dataAt ml_X9_274 (c_X9_dataAt l G _ x1 u7 e7) CutX.none ⟨rfl, rfl⟩ ⟨Nat.le_of_ble_eq_true rfl, Nat.le_of_ble_eq_true rfl⟩ rfl ⟨Nat.zero_le _, Nat.zero_le _⟩ rfl (Nat.le_of_ble_eq_true rfl) dX9_poke_54 (fun H locs hw => ?_)
        refine r_iload0 C hl 2 rfl dX9_poke_57 ?_
        refine lv_iadd C.1 C.2.1 dX9_poke_58 ?_
        obtain ⟨v8_, e8, hf⟩ := bx hf
        refine r_iald C hw _ (gx_h dO_g20) e8 dX9_poke_59 ?_
        refine r_istore C hl [(4, .int v8_), (0, .ref (ad 99)), (1, .int x1), (2, .int x2), (3, .int x3)] (by decide) rfl dX9_poke_60 (fun ls hl => ?_)
        refine r_aload0 C hl 1 rfl dX9_poke_62 ?_
        refine r_get C hw _ (gx_h dO_o) 20 fl_X9_35 rfl dX9_poke_63 ?_
        refine r_iload0 C hl 2 rfl dX9_poke_66 ?_
        obtain ⟨u9, e9, hf⟩ := bx hf
        refine r_callSi (ws' := (dO G ad u6 dw ++ [])) (As := [.int x1]) (rest := [.ref (ad 20)]) C hw hl.1 kX9_dataAt ml_X9_274 (c_X9_dataAt l G _ x1 u9 e9) CutX.none ⟨rfl, rfl⟩ ⟨Nat.le_of_ble_eq_true rfl, Nat.le_of_ble_eq_true rfl⟩ rfl ⟨Nat.zero_le _, Nat.zero_le _⟩ rfl (Nat.le_of_ble_eq_true rfl) dX9_poke_67 (fun H locs hw => ?_)
        refine r_iload0 C hl 3 rfl dX9_poke_70 ?_
        refine lv_iadd C.1 C.2.1 dX9_poke_71 ?_
        refine r_iload0 C hl 4 rfl dX9_poke_72 ?_
        obtain ⟨d_ad10, e10, hf⟩ := bx hf
        refine r_iast C hw _ (gx_h dO_g20) e10 (dO G ad d_ad10 dw ++ []) (fun h => (sx_h dO_g20 (dO_s20 h))) dX9_poke_73 (fun H locs hw => ?_)
        refine r_aload0 C hl 1 rfl dX9_poke_74 ?_
        refine r_iload C hl 0 rfl dX9_poke_75 ?_
        obtain ⟨u11, e11, hf⟩ := bx hf
        refine r_callVi (ws' := (dO G ad u11.2 dw ++ [])) (As := [.int v8_]) (rest := []) C hw hl.1 kX9_good ml_X9_222 (c_X9_good l G ad _ d_ad10 dw v8_ u11 e11) (CutX.take dO_f CutX.none) _ (gx_h dO_o) rfl ⟨rfl, rfl⟩ ⟨Nat.le_of_ble_eq_true rfl, Nat.le_of_ble_eq_true rfl⟩ rfl ⟨Nat.zero_le _, Nat.zero_le _⟩ rfl (Nat.le_of_ble_eq_true rfl) dX9_poke_77 (fun H locs hw => ?_)
        exact fin_i C hw (Option.some.inj hf) (fun o => o.1) (fun o => (dO G ad o.2 dw ++ [])) rfl rfl dX9_poke_80
      · replace hf := ifp hf hc
        refine r_aload0 C hl 0 rfl dX9_poke_39 ?_
        refine lv_iconst (v := 2) C.1 C.2.1 dX9_poke_40 (by decide) ?_
        obtain ⟨u12, e12, hf⟩ := bx hf
        refine r_callVi (ws' := (dO G ad u12.2 dw ++ [])) (As := [.int 2]) (rest := []) C hw hl.1 kX9_refused ml_X9_210 (c_X9_refused l G ad _ d_ad1 dw 2 u12 e12) (CutX.take dO_f CutX.none) _ (gx_h dO_o) rfl ⟨rfl, rfl⟩ ⟨Nat.le_of_ble_eq_true rfl, Nat.le_of_ble_eq_true rfl⟩ rfl ⟨Nat.zero_le _, Nat.zero_le _⟩ rfl (Nat.le_of_ble_eq_true rfl) dX9_poke_41 (fun H locs hw => ?_)
        exact fin_i C hw (Option.some.inj hf) (fun o => o.1) (fun o => (dO G ad o.2 dw ++ [])) rfl rfl dX9_poke_44
    · replace hf := ifp hf hc
      exact hB_23  d_ad1 hf _ _ hw _ (lv_sub hl [0] rfl)
set_option maxHeartbeats 4000000 in
set_option maxRecDepth 100000 in
theorem c_X9_writeBack (l : Launch) (G : GG) (ad : Nat → Nat) (sz : Nat) (d_ad : Pic) (dw : Int64) (x1 : Int32) (out : Int32 × Pic) (hf : f_X9_writeBack d_ad x1 = some out) : Met l yX9_writeBack (.code yX9_writeBack cX9_writeBack 3 (some .int) :: BT) ({ frames := 4, cells := 0, slots := 0, locals := 87 }) (va_Pc [.ref (ad 99), .int x1] (PreW G sz (dO G ad d_ad dw ++ []))) (Ans G out.1 (va_A (dO G ad d_ad dw ++ []) sz) (dO G ad out.2 dw ++ [])) 0 0 (va_A (dO G ad d_ad dw ++ []) sz) := by
  refine Met.into (by decide) (Nat.le_of_ble_eq_true rfl) ?_
  intro p e s m below meth c C hsz ls hl hw
  have hl : lv_has ls 3 [(0, .ref (ad 99)), (1, .int x1)] := hl
  clear hsz
  generalize va_A (dO G ad d_ad dw ++ []) sz = A at hw ⊢
  have hB_64 : ∀ (d_ad : Pic) (v2 : Int32), b_X9_writeBack_64 x1  d_ad v2 = some out → ∀ (H : Heap) (locs : List Loc), Wd G A s H locs (dO G ad d_ad dw ++ []) → ∀ ls : Array Slot, lv_has ls 3 [(0, .ref (ad 99)), (2, .int v2)] → W p l e ({ frames := 4, cells := 0, slots := 0, locals := 87 }) s m [.ref (ad 99), .int x1].toArray below meth c H locs 0 0 (MQ below (Ans G out.1 A (dO G ad out.2 dw ++ [])) [.ref (ad 99), .int x1].toArray s 0 0 A) (F0 m 64 ls []) := by
    intro d_ad v2 hf H locs hw ls hl
    unfold b_X9_writeBack_64 at hf
    refine r_aload0 C hl 0 rfl dX9_writeBack_64 ?_
    refine r_iload0 C hl 1 rfl dX9_writeBack_65 ?_
    obtain ⟨u4, e4, hf⟩ := bx hf
    refine r_callVi (ws' := (dO G ad u4.2 dw ++ [])) (As := [.int v2]) (rest := []) C hw hl.1 kX9_good ml_X9_222 (c_X9_good l G ad _ d_ad dw v2 u4 e4) (CutX.take dO_f CutX.none) _ (gx_h dO_o) rfl ⟨rfl, rfl⟩ ⟨Nat.le_of_ble_eq_true rfl, Nat.le_of_ble_eq_true rfl⟩ rfl ⟨Nat.zero_le _, Nat.zero_le _⟩ rfl (Nat.le_of_ble_eq_true rfl) dX9_writeBack_66 (fun H locs hw => ?_)
    exact fin_i C hw (Option.some.inj hf) (fun o => o.1) (fun o => (dO G ad o.2 dw ++ [])) rfl rfl dX9_writeBack_69
  have hB_40 : ∀ (k40 : Pic → Int32 → Option (Int32 × Pic)) (hk40 : ∀ (d_ad : Pic) (v2 : Int32), k40 d_ad v2 = some out → ∀ (H : Heap) (locs : List Loc), Wd G A s H locs (dO G ad d_ad dw ++ []) → ∀ ls : Array Slot, lv_has ls 3 [(0, .ref (ad 99)), (1, .int x1), (2, .int v2)] → W p l e ({ frames := 4, cells := 0, slots := 0, locals := 87 }) s m [.ref (ad 99), .int x1].toArray below meth c H locs 0 0 (MQ below (Ans G out.1 A (dO G ad out.2 dw ++ [])) [.ref (ad 99), .int x1].toArray s 0 0 A) (F0 m 40 ls [])), ∀ (d_ad : Pic) (v2 : Int32), b_X9_writeBack_40 x1 k40 d_ad v2 = some out → ∀ (H : Heap) (locs : List Loc), Wd G A s H locs (dO G ad d_ad dw ++ []) → ∀ ls : Array Slot, lv_has ls 3 [(0, .ref (ad 99)), (1, .int x1), (2, .int v2)] → W p l e ({ frames := 4, cells := 0, slots := 0, locals := 87 }) s m [.ref (ad 99), .int x1].toArray below meth c H locs 0 0 (MQ below (Ans G out.1 A (dO G ad out.2 dw ++ [])) [.ref (ad 99), .int x1].toArray s 0 0 A) (F0 m 40 ls []) := by
    intro k40 hk40 d_ad v2 hf H locs hw ls hl
    unfold b_X9_writeBack_40 at hf
    refine r_iload0 C hl 2 rfl dX9_writeBack_40 ?_
    refine r_iload0 C hl 1 rfl dX9_writeBack_41 ?_
    refine lv_icmp_ge (tgt := 64) C.1 C.2.1 dX9_writeBack_42 (by decide) (fun hc => ?_) (fun hc => ?_)
    · replace hf := ifp hf hc
      exact hB_64  d_ad v2 hf _ _ hw _ (lv_sub hl [0, 2] rfl)
    · replace hf := ifn hf hc
      refine r_aload0 C hl 0 rfl dX9_writeBack_45 ?_
      obtain ⟨u5, e5, hf⟩ := bx hf
      refine r_callVi (ws' := (dO G ad d_ad dw ++ [])) (As := []) (rest := []) C hw hl.1 kX9_coldestFree ml_X9_337 (c_X9_coldestFree l G ad _ d_ad dw u5 e5) (CutX.take dO_f CutX.none) _ (gx_h dO_o) rfl ⟨rfl, rfl⟩ ⟨Nat.le_of_ble_eq_true rfl, Nat.le_of_ble_eq_true rfl⟩ rfl ⟨Nat.zero_le _, Nat.zero_le _⟩ rfl (Nat.le_of_ble_eq_true rfl) dX9_writeBack_46 (fun H locs hw => ?_)
      refine lv_iconst (v := (-1)) C.1 C.2.1 dX9_writeBack_49 (by decide) ?_
      refine lv_icmp_eq (tgt := 64) C.1 C.2.1 dX9_writeBack_50 (by decide) (fun hc => ?_) (fun hc => ?_)
      · replace hf := ifp hf hc
        exact hB_64  d_ad v2 hf _ _ hw _ (lv_sub hl [0, 2] rfl)
      · replace hf := ifn hf hc
        refine r_aload0 C hl 0 rfl dX9_writeBack_53 ?_
        obtain ⟨u6, e6, hf⟩ := bx hf
        refine r_callVi (ws' := (dO G ad u6.2 dw ++ [])) (As := []) (rest := []) C hw hl.1 kX9_writesColdest ml_X9_362 (c_X9_writesColdest l G ad _ d_ad dw u6 e6) (CutX.take dO_f CutX.none) _ (gx_h dO_o) rfl ⟨rfl, rfl⟩ ⟨Nat.le_of_ble_eq_true rfl, Nat.le_of_ble_eq_true rfl⟩ rfl ⟨Nat.zero_le _, Nat.zero_le _⟩ rfl (Nat.le_of_ble_eq_true rfl) dX9_writeBack_54 (fun H locs hw => ?_)
        refine lv_pop C.1 C.2.1 dX9_writeBack_57 rfl ?_
        refine r_iinc C hl 2 (v2 + 1) [(2, .int (v2 + 1)), (0, .ref (ad 99)), (1, .int x1)] rfl (iinc_e (by decide)) (by decide) rfl dX9_writeBack_58 (fun ls hl => ?_)
        refine lv_goto (tgt := 40) C.1 C.2.1 dX9_writeBack_61 (by decide) ?_
        exact hk40 u6.2 (v2 + 1) hf _ _ hw _ (lv_sub hl [1, 2, 0] rfl)
  have hL_40 : ∀ n : Nat, ∀ (d_ad : Pic) (v2 : Int32), L_X9_writeBack_40 x1  n d_ad v2 = some out → ∀ (H : Heap) (locs : List Loc), Wd G A s H locs (dO G ad d_ad dw ++ []) → ∀ ls : Array Slot, lv_has ls 3 [(0, .ref (ad 99)), (1, .int x1), (2, .int v2)] → W p l e ({ frames := 4, cells := 0, slots := 0, locals := 87 }) s m [.ref (ad 99), .int x1].toArray below meth c H locs 0 0 (MQ below (Ans G out.1 A (dO G ad out.2 dw ++ [])) [.ref (ad 99), .int x1].toArray s 0 0 A) (F0 m 40 ls []) := by
    intro  n
    induction n with
    | zero => intro d_ad v2 hf; cases hf
    | succ n ih => exact hB_40 _ ih
  unfold f_X9_writeBack at hf
  refine r_aload0 C hl 0 rfl dX9_writeBack_0 ?_
  refine lv_iconst (v := 0) C.1 C.2.1 dX9_writeBack_1 (by decide) ?_
  obtain ⟨d_ad1, e1, hf⟩ := bx hf
  refine r_put C hw _ (gx_h dO_o) 0 fp_X9_75 rfl rfl (Nat.le_of_ble_eq_true rfl) (dO G ad d_ad1 dw ++ []) (sx_h dO_o (dO_p0 e1)) dX9_writeBack_2 (fun H locs hw => ?_)
  refine r_aload0 C hl 0 rfl dX9_writeBack_5 ?_
  refine r_get C hw _ (gx_h dO_o) 19 fl_X9_225 rfl dX9_writeBack_6 ?_
  refine lv_if_ne (tgt := 18) C.1 C.2.1 dX9_writeBack_9 (by decide) (fun hc => ?_) (fun hc => ?_)
  · replace hf := ifn hf hc
    refine r_iload0 C hl 1 rfl dX9_writeBack_18 ?_
    refine lv_iconst (v := 1) C.1 C.2.1 dX9_writeBack_19 (by decide) ?_
    refine lv_bipush (v := 30) C.1 C.2.1 dX9_writeBack_20 (by decide) ?_
    obtain ⟨u2, e2, hf⟩ := bx hf
    refine r_callSi (ws' := (dO G ad d_ad1 dw ++ [])) (As := [.int x1, .int 1, .int 30]) (rest := []) C hw hl.1 kX9_in ml_X9_100 (c_X9_in l G _ x1 1 30 u2 e2) CutX.none ⟨rfl, rfl⟩ ⟨Nat.le_of_ble_eq_true rfl, Nat.le_of_ble_eq_true rfl⟩ rfl ⟨Nat.zero_le _, Nat.zero_le _⟩ rfl (Nat.le_of_ble_eq_true rfl) dX9_writeBack_22 (fun H locs hw => ?_)
    refine lv_if_ne (tgt := 34) C.1 C.2.1 dX9_writeBack_25 (by decide) (fun hc => ?_) (fun hc => ?_)
    · replace hf := ifn hf hc
      refine r_aload0 C hl 0 rfl dX9_writeBack_34 ?_
      obtain ⟨u3, e3, hf⟩ := bx hf
      refine r_callVv (ws' := (dO G ad u3 dw ++ [])) (As := []) (rest := []) C hw hl.1 kX9_remembers ml_X9_427 (c_X9_remembers l G ad _ d_ad1 dw u3 e3) (CutX.take dO_f CutX.none) _ (gx_h dO_o) rfl ⟨rfl, rfl⟩ ⟨Nat.le_of_ble_eq_true rfl, Nat.le_of_ble_eq_true rfl⟩ rfl ⟨Nat.zero_le _, Nat.zero_le _⟩ rfl (Nat.le_of_ble_eq_true rfl) dX9_writeBack_35 (fun H locs hw => ?_)
      refine lv_iconst (v := 0) C.1 C.2.1 dX9_writeBack_38 (by decide) ?_
      refine r_istore0 C hl [(2, .int 0), (0, .ref (ad 99)), (1, .int x1)] (by decide) rfl dX9_writeBack_39 (fun ls hl => ?_)
      exact hL_40  FU u3 0 hf _ _ hw _ (lv_sub hl [1, 2, 0] rfl)
    · replace hf := ifp hf hc
      refine r_aload0 C hl 0 rfl dX9_writeBack_28 ?_
      refine lv_iconst (v := 2) C.1 C.2.1 dX9_writeBack_29 (by decide) ?_
      obtain ⟨u7, e7, hf⟩ := bx hf
      refine r_callVi (ws' := (dO G ad u7.2 dw ++ [])) (As := [.int 2]) (rest := []) C hw hl.1 kX9_refused ml_X9_210 (c_X9_refused l G ad _ d_ad1 dw 2 u7 e7) (CutX.take dO_f CutX.none) _ (gx_h dO_o) rfl ⟨rfl, rfl⟩ ⟨Nat.le_of_ble_eq_true rfl, Nat.le_of_ble_eq_true rfl⟩ rfl ⟨Nat.zero_le _, Nat.zero_le _⟩ rfl (Nat.le_of_ble_eq_true rfl) dX9_writeBack_30 (fun H locs hw => ?_)
      exact fin_i C hw (Option.some.inj hf) (fun o => o.1) (fun o => (dO G ad o.2 dw ++ [])) rfl rfl dX9_writeBack_33
  · replace hf := ifp hf hc
    refine r_aload0 C hl 0 rfl dX9_writeBack_12 ?_
    refine lv_iconst (v := 1) C.1 C.2.1 dX9_writeBack_13 (by decide) ?_
    obtain ⟨u8, e8, hf⟩ := bx hf
    refine r_callVi (ws' := (dO G ad u8.2 dw ++ [])) (As := [.int 1]) (rest := []) C hw hl.1 kX9_refused ml_X9_210 (c_X9_refused l G ad _ d_ad1 dw 1 u8 e8) (CutX.take dO_f CutX.none) _ (gx_h dO_o) rfl ⟨rfl, rfl⟩ ⟨Nat.le_of_ble_eq_true rfl, Nat.le_of_ble_eq_true rfl⟩ rfl ⟨Nat.zero_le _, Nat.zero_le _⟩ rfl (Nat.le_of_ble_eq_true rfl) dX9_writeBack_14 (fun H locs hw => ?_)
    exact fin_i C hw (Option.some.inj hf) (fun o => o.1) (fun o => (dO G ad o.2 dw ++ [])) rfl rfl dX9_writeBack_17
set_option maxHeartbeats 4000000 in
set_option maxRecDepth 100000 in
theorem c_X9_limit (l : Launch) (G : GG) (ad : Nat → Nat) (sz : Nat) (d_ad : Pic) (dw : Int64) (x1 : Int32) (out : Int32 × Pic) (hf : f_X9_limit d_ad x1 = some out) : Met l yX9_limit (.code yX9_limit cX9_limit 3 (some .int) :: BT) ({ frames := 5, cells := 0, slots := 0, locals := 109 }) (va_Pc [.ref (ad 99), .int x1] (PreW G sz (dO G ad d_ad dw ++ []))) (Ans G out.1 (va_A (dO G ad d_ad dw ++ []) sz) (dO G ad out.2 dw ++ [])) 0 0 (va_A (dO G ad d_ad dw ++ []) sz) := by
  refine Met.into (by decide) (Nat.le_of_ble_eq_true rfl) ?_
  intro p e s m below meth c C hsz ls hl hw
  have hl : lv_has ls 3 [(0, .ref (ad 99)), (1, .int x1)] := hl
  clear hsz
  generalize va_A (dO G ad d_ad dw ++ []) sz = A at hw ⊢
  unfold f_X9_limit at hf
  refine r_aload0 C hl 0 rfl dX9_limit_0 ?_
  refine lv_iconst (v := 0) C.1 C.2.1 dX9_limit_1 (by decide) ?_
  obtain ⟨d_ad1, e1, hf⟩ := bx hf
  refine r_put C hw _ (gx_h dO_o) 0 fp_X9_75 rfl rfl (Nat.le_of_ble_eq_true rfl) (dO G ad d_ad1 dw ++ []) (sx_h dO_o (dO_p0 e1)) dX9_limit_2 (fun H locs hw => ?_)
  refine r_aload0 C hl 0 rfl dX9_limit_5 ?_
  refine r_get C hw _ (gx_h dO_o) 19 fl_X9_225 rfl dX9_limit_6 ?_
  refine lv_if_ne (tgt := 18) C.1 C.2.1 dX9_limit_9 (by decide) (fun hc => ?_) (fun hc => ?_)
  · replace hf := ifn hf hc
    refine r_iload0 C hl 1 rfl dX9_limit_18 ?_
    refine lv_iconst (v := 1) C.1 C.2.1 dX9_limit_19 (by decide) ?_
    refine lv_bipush (v := 24) C.1 C.2.1 dX9_limit_20 (by decide) ?_
    obtain ⟨u2, e2, hf⟩ := bx hf
    refine r_callSi (ws' := (dO G ad d_ad1 dw ++ [])) (As := [.int x1, .int 1, .int 24]) (rest := []) C hw hl.1 kX9_in ml_X9_100 (c_X9_in l G _ x1 1 24 u2 e2) CutX.none ⟨rfl, rfl⟩ ⟨Nat.le_of_ble_eq_true rfl, Nat.le_of_ble_eq_true rfl⟩ rfl ⟨Nat.zero_le _, Nat.zero_le _⟩ rfl (Nat.le_of_ble_eq_true rfl) dX9_limit_22 (fun H locs hw => ?_)
    refine lv_if_ne (tgt := 34) C.1 C.2.1 dX9_limit_25 (by decide) (fun hc => ?_) (fun hc => ?_)
    · replace hf := ifn hf hc
      refine r_aload0 C hl 0 rfl dX9_limit_34 ?_
      obtain ⟨u3, e3, hf⟩ := bx hf
      refine r_callVv (ws' := (dO G ad u3 dw ++ [])) (As := []) (rest := []) C hw hl.1 kX9_remembers ml_X9_427 (c_X9_remembers l G ad _ d_ad1 dw u3 e3) (CutX.take dO_f CutX.none) _ (gx_h dO_o) rfl ⟨rfl, rfl⟩ ⟨Nat.le_of_ble_eq_true rfl, Nat.le_of_ble_eq_true rfl⟩ rfl ⟨Nat.zero_le _, Nat.zero_le _⟩ rfl (Nat.le_of_ble_eq_true rfl) dX9_limit_35 (fun H locs hw => ?_)
      refine r_aload0 C hl 0 rfl dX9_limit_38 ?_
      refine r_get C hw _ (gx_h dO_o) 20 fl_X9_35 rfl dX9_limit_39 ?_
      refine lv_iconst (v := 0) C.1 C.2.1 dX9_limit_42 (by decide) ?_
      refine r_iload0 C hl 1 rfl dX9_limit_43 ?_
      obtain ⟨d_ad4, e4, hf⟩ := bx hf
      refine r_iast C hw _ (gx_h dO_g20) e4 (dO G ad d_ad4 dw ++ []) (fun h => (sx_h dO_g20 (dO_s20 h))) dX9_limit_44 (fun H locs hw => ?_)
      refine r_aload0 C hl 0 rfl dX9_limit_45 ?_
      refine r_iload0 C hl 1 rfl dX9_limit_46 ?_
      obtain ⟨u5, e5, hf⟩ := bx hf
      refine r_callVi (ws' := (dO G ad u5.2 dw ++ [])) (As := [.int x1]) (rest := []) C hw hl.1 kX9_goes ml_X9_404 (c_X9_goes l G ad _ d_ad4 dw x1 u5 e5) (CutX.take dO_f CutX.none) _ (gx_h dO_o) rfl ⟨rfl, rfl⟩ ⟨Nat.le_of_ble_eq_true rfl, Nat.le_of_ble_eq_true rfl⟩ rfl ⟨Nat.zero_le _, Nat.zero_le _⟩ rfl (Nat.le_of_ble_eq_true rfl) dX9_limit_47 (fun H locs hw => ?_)
      refine r_istore0 C hl [(2, .int u5.1), (0, .ref (ad 99)), (1, .int x1)] (by decide) rfl dX9_limit_50 (fun ls hl => ?_)
      refine r_aload0 C hl 1 rfl dX9_limit_51 ?_
      refine r_get C hw _ (gx_h dO_o) 20 fl_X9_35 rfl dX9_limit_52 ?_
      refine lv_iconst (v := 2) C.1 C.2.1 dX9_limit_55 (by decide) ?_
      refine lv_dup2_11 C.1 C.2.1 dX9_limit_56 rfl rfl ?_
      obtain ⟨v6_, e6, hf⟩ := bx hf
      refine r_iald C hw _ (gx_h dO_g20) e6 dX9_limit_57 ?_
      refine r_iload0 C hl 0 rfl dX9_limit_58 ?_
      refine lv_iadd C.1 C.2.1 dX9_limit_59 ?_
      obtain ⟨d_ad7, e7, hf⟩ := bx hf
      refine r_iast C hw _ (gx_h dO_g20) e7 (dO G ad d_ad7 dw ++ []) (fun h => (sx_h dO_g20 (dO_s20 h))) dX9_limit_60 (fun H locs hw => ?_)
      refine r_aload0 C hl 1 rfl dX9_limit_61 ?_
      refine r_iload0 C hl 0 rfl dX9_limit_62 ?_
      obtain ⟨u8, e8, hf⟩ := bx hf
      refine r_callVi (ws' := (dO G ad u8.2 dw ++ [])) (As := [.int u5.1]) (rest := []) C hw hl.1 kX9_good ml_X9_222 (c_X9_good l G ad _ d_ad7 dw u5.1 u8 e8) (CutX.take dO_f CutX.none) _ (gx_h dO_o) rfl ⟨rfl, rfl⟩ ⟨Nat.le_of_ble_eq_true rfl, Nat.le_of_ble_eq_true rfl⟩ rfl ⟨Nat.zero_le _, Nat.zero_le _⟩ rfl (Nat.le_of_ble_eq_true rfl) dX9_limit_63 (fun H locs hw => ?_)
      exact fin_i C hw (Option.some.inj hf) (fun o => o.1) (fun o => (dO G ad o.2 dw ++ [])) rfl rfl dX9_limit_66
    · replace hf := ifp hf hc
      refine r_aload0 C hl 0 rfl dX9_limit_28 ?_
      refine lv_iconst (v := 2) C.1 C.2.1 dX9_limit_29 (by decide) ?_
      obtain ⟨u9, e9, hf⟩ := bx hf
      refine r_callVi (ws' := (dO G ad u9.2 dw ++ [])) (As := [.int 2]) (rest := []) C hw hl.1 kX9_refused ml_X9_210 (c_X9_refused l G ad _ d_ad1 dw 2 u9 e9) (CutX.take dO_f CutX.none) _ (gx_h dO_o) rfl ⟨rfl, rfl⟩ ⟨Nat.le_of_ble_eq_true rfl, Nat.le_of_ble_eq_true rfl⟩ rfl ⟨Nat.zero_le _, Nat.zero_le _⟩ rfl (Nat.le_of_ble_eq_true rfl) dX9_limit_30 (fun H locs hw => ?_)
      exact fin_i C hw (Option.some.inj hf) (fun o => o.1) (fun o => (dO G ad o.2 dw ++ [])) rfl rfl dX9_limit_33
  · replace hf := ifp hf hc
    refine r_aload0 C hl 0 rfl dX9_limit_12 ?_
    refine lv_iconst (v := 1) C.1 C.2.1 dX9_limit_13 (by decide) ?_
    obtain ⟨u10, e10, hf⟩ := bx hf
    refine r_callVi (ws' := (dO G ad u10.2 dw ++ [])) (As := [.int 1]) (rest := []) C hw hl.1 kX9_refused ml_X9_210 (c_X9_refused l G ad _ d_ad1 dw 1 u10 e10) (CutX.take dO_f CutX.none) _ (gx_h dO_o) rfl ⟨rfl, rfl⟩ ⟨Nat.le_of_ble_eq_true rfl, Nat.le_of_ble_eq_true rfl⟩ rfl ⟨Nat.zero_le _, Nat.zero_le _⟩ rfl (Nat.le_of_ble_eq_true rfl) dX9_limit_14 (fun H locs hw => ?_)
    exact fin_i C hw (Option.some.inj hf) (fun o => o.1) (fun o => (dO G ad o.2 dw ++ [])) rfl rfl dX9_limit_17
set_option maxHeartbeats 4000000 in
set_option maxRecDepth 100000 in
theorem c_X9_compact (l : Launch) (G : GG) (ad : Nat → Nat) (sz : Nat) (d_ad : Pic) (dw : Int64)  (out : Int32 × Pic) (hf : f_X9_compact d_ad = some out) : Met l yX9_compact (.code yX9_compact cX9_compact 1 (some .int) :: BT) ({ frames := 6, cells := 0, slots := 0, locals := 136 }) (va_Pc [.ref (ad 99)] (PreW G sz (dO G ad d_ad dw ++ []))) (Ans G out.1 (va_A (dO G ad d_ad dw ++ []) sz) (dO G ad out.2 dw ++ [])) 0 0 (va_A (dO G ad d_ad dw ++ []) sz) := by
  refine Met.into (by decide) (Nat.le_of_ble_eq_true rfl) ?_
  intro p e s m below meth c C hsz ls hl hw
  have hl : lv_has ls 1 [(0, .ref (ad 99))] := hl
  clear hsz
  generalize va_A (dO G ad d_ad dw ++ []) sz = A at hw ⊢
  unfold f_X9_compact at hf
  refine r_aload0 C hl 0 rfl dX9_compact_0 ?_
  refine lv_iconst (v := 0) C.1 C.2.1 dX9_compact_1 (by decide) ?_
  obtain ⟨d_ad1, e1, hf⟩ := bx hf
  refine r_put C hw _ (gx_h dO_o) 0 fp_X9_75 rfl rfl (Nat.le_of_ble_eq_true rfl) (dO G ad d_ad1 dw ++ []) (sx_h dO_o (dO_p0 e1)) dX9_compact_2 (fun H locs hw => ?_)
  refine r_aload0 C hl 0 rfl dX9_compact_5 ?_
  refine r_get C hw _ (gx_h dO_o) 19 fl_X9_225 rfl dX9_compact_6 ?_
  refine lv_if_ne (tgt := 18) C.1 C.2.1 dX9_compact_9 (by decide) (fun hc => ?_) (fun hc => ?_)
  · replace hf := ifn hf hc
    refine r_aload0 C hl 0 rfl dX9_compact_18 ?_
    obtain ⟨u2, e2, hf⟩ := bx hf
    refine r_callVv (ws' := (dO G ad u2 dw ++ [])) (As := []) (rest := []) C hw hl.1 kX9_remembers ml_X9_427 (c_X9_remembers l G ad _ d_ad1 dw u2 e2) (CutX.take dO_f CutX.none) _ (gx_h dO_o) rfl ⟨rfl, rfl⟩ ⟨Nat.le_of_ble_eq_true rfl, Nat.le_of_ble_eq_true rfl⟩ rfl ⟨Nat.zero_le _, Nat.zero_le _⟩ rfl (Nat.le_of_ble_eq_true rfl) dX9_compact_19 (fun H locs hw => ?_)
    refine r_aload0 C hl 0 rfl dX9_compact_22 ?_
    refine r_aload0 C hl 0 rfl dX9_compact_23 ?_
    obtain ⟨u3, e3, hf⟩ := bx hf
    refine r_callVi (ws' := (dO G ad u3.2 dw ++ [])) (As := []) (rest := [.ref (ad 99)]) C hw hl.1 kX9_compacts ml_X9_398 (c_X9_compacts l G ad _ u2 dw u3 e3) (CutX.take dO_f CutX.none) _ (gx_h dO_o) rfl ⟨rfl, rfl⟩ ⟨Nat.le_of_ble_eq_true rfl, Nat.le_of_ble_eq_true rfl⟩ rfl ⟨Nat.zero_le _, Nat.zero_le _⟩ rfl (Nat.le_of_ble_eq_true rfl) dX9_compact_24 (fun H locs hw => ?_)
    obtain ⟨u4, e4, hf⟩ := bx hf
    refine r_callVi (ws' := (dO G ad u4.2 dw ++ [])) (As := [.int u3.1]) (rest := []) C hw hl.1 kX9_good ml_X9_222 (c_X9_good l G ad _ u3.2 dw u3.1 u4 e4) (CutX.take dO_f CutX.none) _ (gx_h dO_o) rfl ⟨rfl, rfl⟩ ⟨Nat.le_of_ble_eq_true rfl, Nat.le_of_ble_eq_true rfl⟩ rfl ⟨Nat.zero_le _, Nat.zero_le _⟩ rfl (Nat.le_of_ble_eq_true rfl) dX9_compact_27 (fun H locs hw => ?_)
    exact fin_i C hw (Option.some.inj hf) (fun o => o.1) (fun o => (dO G ad o.2 dw ++ [])) rfl rfl dX9_compact_30
  · replace hf := ifp hf hc
    refine r_aload0 C hl 0 rfl dX9_compact_12 ?_
    refine lv_iconst (v := 1) C.1 C.2.1 dX9_compact_13 (by decide) ?_
    obtain ⟨u5, e5, hf⟩ := bx hf
    refine r_callVi (ws' := (dO G ad u5.2 dw ++ [])) (As := [.int 1]) (rest := []) C hw hl.1 kX9_refused ml_X9_210 (c_X9_refused l G ad _ d_ad1 dw 1 u5 e5) (CutX.take dO_f CutX.none) _ (gx_h dO_o) rfl ⟨rfl, rfl⟩ ⟨Nat.le_of_ble_eq_true rfl, Nat.le_of_ble_eq_true rfl⟩ rfl ⟨Nat.zero_le _, Nat.zero_le _⟩ rfl (Nat.le_of_ble_eq_true rfl) dX9_compact_14 (fun H locs hw => ?_)
    exact fin_i C hw (Option.some.inj hf) (fun o => o.1) (fun o => (dO G ad o.2 dw ++ [])) rfl rfl dX9_compact_17
set_option maxHeartbeats 4000000 in
set_option maxRecDepth 100000 in
theorem c_X9_run (l : Launch) (G : GG) (ad : Nat → Nat) (sz : Nat) (d_ad : Pic) (dw : Int64) (x1 x2 : Int32) (out : Int32 × Pic) (hf : f_X9_run d_ad x1 x2 = some out) : Met l yX9_run (.code yX9_run cX9_run 4 (some .int) :: BT) ({ frames := 7, cells := 0, slots := 0, locals := 157 }) (va_Pc [.ref (ad 99), .int x1, .int x2] (PreW G sz (dO G ad d_ad dw ++ []))) (Ans G out.1 (va_A (dO G ad d_ad dw ++ []) sz) (dO G ad out.2 dw ++ [])) 0 0 (va_A (dO G ad d_ad dw ++ []) sz) := by
  refine Met.into (by decide) (Nat.le_of_ble_eq_true rfl) ?_
  intro p e s m below meth c C hsz ls hl hw
  have hl : lv_has ls 4 [(0, .ref (ad 99)), (1, .int x1), (2, .int x2)] := hl
  clear hsz
  generalize va_A (dO G ad d_ad dw ++ []) sz = A at hw ⊢
  have hB_24 : ∀ (d_ad : Pic), b_X9_run_24 x1 x2  d_ad = some out → ∀ (H : Heap) (locs : List Loc), Wd G A s H locs (dO G ad d_ad dw ++ []) → ∀ ls : Array Slot, lv_has ls 4 [(0, .ref (ad 99))] → W p l e ({ frames := 7, cells := 0, slots := 0, locals := 157 }) s m [.ref (ad 99), .int x1, .int x2].toArray below meth c H locs 0 0 (MQ below (Ans G out.1 A (dO G ad out.2 dw ++ [])) [.ref (ad 99), .int x1, .int x2].toArray s 0 0 A) (F0 m 24 ls []) := by
    intro d_ad hf H locs hw ls hl
    unfold b_X9_run_24 at hf
    refine r_aload0 C hl 0 rfl dX9_run_24 ?_
    refine lv_iconst (v := 1) C.1 C.2.1 dX9_run_25 (by decide) ?_
    obtain ⟨u2, e2, hf⟩ := bx hf
    refine r_callVi (ws' := (dO G ad u2.2 dw ++ [])) (As := [.int 1]) (rest := []) C hw hl.1 kX9_refused ml_X9_210 (c_X9_refused l G ad _ d_ad dw 1 u2 e2) (CutX.take dO_f CutX.none) _ (gx_h dO_o) rfl ⟨rfl, rfl⟩ ⟨Nat.le_of_ble_eq_true rfl, Nat.le_of_ble_eq_true rfl⟩ rfl ⟨Nat.zero_le _, Nat.zero_le _⟩ rfl (Nat.le_of_ble_eq_true rfl) dX9_run_26 (fun H locs hw => ?_)
    exact fin_i C hw (Option.some.inj hf) (fun o => o.1) (fun o => (dO G ad o.2 dw ++ [])) rfl rfl dX9_run_29
  have hB_80 : ∀ (d_ad : Pic) (v3 : Int32), b_X9_run_80 x1 x2  d_ad v3 = some out → ∀ (H : Heap) (locs : List Loc), Wd G A s H locs (dO G ad d_ad dw ++ []) → ∀ ls : Array Slot, lv_has ls 4 [(0, .ref (ad 99)), (3, .int v3)] → W p l e ({ frames := 7, cells := 0, slots := 0, locals := 157 }) s m [.ref (ad 99), .int x1, .int x2].toArray below meth c H locs 0 0 (MQ below (Ans G out.1 A (dO G ad out.2 dw ++ [])) [.ref (ad 99), .int x1, .int x2].toArray s 0 0 A) (F0 m 80 ls []) := by
    intro d_ad v3 hf H locs hw ls hl
    unfold b_X9_run_80 at hf
    refine r_aload0 C hl 0 rfl dX9_run_80 ?_
    refine r_iload0 C hl 1 rfl dX9_run_81 ?_
    obtain ⟨u5, e5, hf⟩ := bx hf
    refine r_callVi (ws' := (dO G ad u5.2 dw ++ [])) (As := [.int v3]) (rest := []) C hw hl.1 kX9_good ml_X9_222 (c_X9_good l G ad _ d_ad dw v3 u5 e5) (CutX.take dO_f CutX.none) _ (gx_h dO_o) rfl ⟨rfl, rfl⟩ ⟨Nat.le_of_ble_eq_true rfl, Nat.le_of_ble_eq_true rfl⟩ rfl ⟨Nat.zero_le _, Nat.zero_le _⟩ rfl (Nat.le_of_ble_eq_true rfl) dX9_run_82 (fun H locs hw => ?_)
    exact fin_i C hw (Option.some.inj hf) (fun o => o.1) (fun o => (dO G ad o.2 dw ++ [])) rfl rfl dX9_run_85
  have hB_52 : ∀ (k52 : Pic → Int32 → Option (Int32 × Pic)) (hk52 : ∀ (d_ad : Pic) (v3 : Int32), k52 d_ad v3 = some out → ∀ (H : Heap) (locs : List Loc), Wd G A s H locs (dO G ad d_ad dw ++ []) → ∀ ls : Array Slot, lv_has ls 4 [(0, .ref (ad 99)), (1, .int x1), (2, .int x2), (3, .int v3)] → W p l e ({ frames := 7, cells := 0, slots := 0, locals := 157 }) s m [.ref (ad 99), .int x1, .int x2].toArray below meth c H locs 0 0 (MQ below (Ans G out.1 A (dO G ad out.2 dw ++ [])) [.ref (ad 99), .int x1, .int x2].toArray s 0 0 A) (F0 m 52 ls [])), ∀ (d_ad : Pic) (v3 : Int32), b_X9_run_52 x1 x2 k52 d_ad v3 = some out → ∀ (H : Heap) (locs : List Loc), Wd G A s H locs (dO G ad d_ad dw ++ []) → ∀ ls : Array Slot, lv_has ls 4 [(0, .ref (ad 99)), (1, .int x1), (2, .int x2), (3, .int v3)] → W p l e ({ frames := 7, cells := 0, slots := 0, locals := 157 }) s m [.ref (ad 99), .int x1, .int x2].toArray below meth c H locs 0 0 (MQ below (Ans G out.1 A (dO G ad out.2 dw ++ [])) [.ref (ad 99), .int x1, .int x2].toArray s 0 0 A) (F0 m 52 ls []) := by
    intro k52 hk52 d_ad v3 hf H locs hw ls hl
    unfold b_X9_run_52 at hf
    refine r_iload0 C hl 3 rfl dX9_run_52 ?_
    refine r_iload0 C hl 2 rfl dX9_run_53 ?_
    refine lv_icmp_ge (tgt := 80) C.1 C.2.1 dX9_run_54 (by decide) (fun hc => ?_) (fun hc => ?_)
    · replace hf := ifp hf hc
      exact hB_80  d_ad v3 hf _ _ hw _ (lv_sub hl [0, 3] rfl)
    · replace hf := ifn hf hc
      refine r_iload0 C hl 1 rfl dX9_run_57 ?_
      refine r_iload0 C hl 3 rfl dX9_run_58 ?_
      refine lv_iadd C.1 C.2.1 dX9_run_59 ?_
      refine r_aload0 C hl 0 rfl dX9_run_60 ?_
      refine r_get C hw _ (gx_h dO_o) 6 fl_X9_233 rfl dX9_run_61 ?_
      refine lv_icmp_ge (tgt := 80) C.1 C.2.1 dX9_run_64 (by decide) (fun hc => ?_) (fun hc => ?_)
      · replace hf := ifp hf hc
        exact hB_80  d_ad v3 hf _ _ hw _ (lv_sub hl [0, 3] rfl)
      · replace hf := ifn hf hc
        refine r_aload0 C hl 0 rfl dX9_run_67 ?_
        refine r_iload0 C hl 1 rfl dX9_run_68 ?_
        refine r_iload0 C hl 3 rfl dX9_run_69 ?_
        refine lv_iadd C.1 C.2.1 dX9_run_70 ?_
        obtain ⟨u6, e6, hf⟩ := bx hf
        refine r_callVv (ws' := (dO G ad u6 dw ++ [])) (As := [.int (x1 + v3)]) (rest := []) C hw hl.1 kX9_does ml_X9_420 (c_X9_does l G ad _ d_ad dw (x1 + v3) u6 e6) (CutX.take dO_f CutX.none) _ (gx_h dO_o) rfl ⟨rfl, rfl⟩ ⟨Nat.le_of_ble_eq_true rfl, Nat.le_of_ble_eq_true rfl⟩ rfl ⟨Nat.zero_le _, Nat.zero_le _⟩ rfl (Nat.le_of_ble_eq_true rfl) dX9_run_71 (fun H locs hw => ?_)
        refine r_iinc C hl 3 (v3 + 1) [(3, .int (v3 + 1)), (0, .ref (ad 99)), (1, .int x1), (2, .int x2)] rfl (iinc_e (by decide)) (by decide) rfl dX9_run_74 (fun ls hl => ?_)
        refine lv_goto (tgt := 52) C.1 C.2.1 dX9_run_77 (by decide) ?_
        exact hk52 u6 (v3 + 1) hf _ _ hw _ (lv_sub hl [1, 2, 3, 0] rfl)
  have hL_52 : ∀ n : Nat, ∀ (d_ad : Pic) (v3 : Int32), L_X9_run_52 x1 x2  n d_ad v3 = some out → ∀ (H : Heap) (locs : List Loc), Wd G A s H locs (dO G ad d_ad dw ++ []) → ∀ ls : Array Slot, lv_has ls 4 [(0, .ref (ad 99)), (1, .int x1), (2, .int x2), (3, .int v3)] → W p l e ({ frames := 7, cells := 0, slots := 0, locals := 157 }) s m [.ref (ad 99), .int x1, .int x2].toArray below meth c H locs 0 0 (MQ below (Ans G out.1 A (dO G ad out.2 dw ++ [])) [.ref (ad 99), .int x1, .int x2].toArray s 0 0 A) (F0 m 52 ls []) := by
    intro  n
    induction n with
    | zero => intro d_ad v3 hf; cases hf
    | succ n ih => exact hB_52 _ ih
  unfold f_X9_run at hf
  refine r_aload0 C hl 0 rfl dX9_run_0 ?_
  refine lv_iconst (v := 0) C.1 C.2.1 dX9_run_1 (by decide) ?_
  obtain ⟨d_ad1, e1, hf⟩ := bx hf
  refine r_put C hw _ (gx_h dO_o) 0 fp_X9_75 rfl rfl (Nat.le_of_ble_eq_true rfl) (dO G ad d_ad1 dw ++ []) (sx_h dO_o (dO_p0 e1)) dX9_run_2 (fun H locs hw => ?_)
  refine r_aload0 C hl 0 rfl dX9_run_5 ?_
  refine r_get C hw _ (gx_h dO_o) 19 fl_X9_225 rfl dX9_run_6 ?_
  refine lv_if_eq (tgt := 24) C.1 C.2.1 dX9_run_9 (by decide) (fun hc => ?_) (fun hc => ?_)
  · replace hf := ifp hf hc
    exact hB_24  d_ad1 hf _ _ hw _ (lv_sub hl [0] rfl)
  · replace hf := ifn hf hc
    refine r_iload0 C hl 1 rfl dX9_run_12 ?_
    refine lv_if_lt (tgt := 24) C.1 C.2.1 dX9_run_13 (by decide) (fun hc => ?_) (fun hc => ?_)
    · replace hf := ifp hf hc
      exact hB_24  d_ad1 hf _ _ hw _ (lv_sub hl [0] rfl)
    · replace hf := ifn hf hc
      refine r_iload0 C hl 1 rfl dX9_run_16 ?_
      refine r_aload0 C hl 0 rfl dX9_run_17 ?_
      refine r_get C hw _ (gx_h dO_o) 6 fl_X9_233 rfl dX9_run_18 ?_
      refine lv_icmp_lt (tgt := 30) C.1 C.2.1 dX9_run_21 (by decide) (fun hc => ?_) (fun hc => ?_)
      · replace hf := ifp hf hc
        refine r_iload0 C hl 2 rfl dX9_run_30 ?_
        refine lv_iconst (v := 1) C.1 C.2.1 dX9_run_31 (by decide) ?_
        refine lv_bipush (v := 24) C.1 C.2.1 dX9_run_32 (by decide) ?_
        obtain ⟨u3, e3, hf⟩ := bx hf
        refine r_callSi (ws' := (dO G ad d_ad1 dw ++ [])) (As := [.int x2, .int 1, .int 24]) (rest := []) C hw hl.1 kX9_in ml_X9_100 (c_X9_in l G _ x2 1 24 u3 e3) CutX.none ⟨rfl, rfl⟩ ⟨Nat.le_of_ble_eq_true rfl, Nat.le_of_ble_eq_true rfl⟩ rfl ⟨Nat.zero_le _, Nat.zero_le _⟩ rfl (Nat.le_of_ble_eq_true rfl) dX9_run_34 (fun H locs hw => ?_)
        refine lv_if_ne (tgt := 46) C.1 C.2.1 dX9_run_37 (by decide) (fun hc => ?_) (fun hc => ?_)
        · replace hf := ifn hf hc
          refine r_aload0 C hl 0 rfl dX9_run_46 ?_
          obtain ⟨u4, e4, hf⟩ := bx hf
          refine r_callVv (ws' := (dO G ad u4 dw ++ [])) (As := []) (rest := []) C hw hl.1 kX9_remembers ml_X9_427 (c_X9_remembers l G ad _ d_ad1 dw u4 e4) (CutX.take dO_f CutX.none) _ (gx_h dO_o) rfl ⟨rfl, rfl⟩ ⟨Nat.le_of_ble_eq_true rfl, Nat.le_of_ble_eq_true rfl⟩ rfl ⟨Nat.zero_le _, Nat.zero_le _⟩ rfl (Nat.le_of_ble_eq_true rfl) dX9_run_47 (fun H locs hw => ?_)
          refine lv_iconst (v := 0) C.1 C.2.1 dX9_run_50 (by decide) ?_
          refine r_istore0 C hl [(3, .int 0), (0, .ref (ad 99)), (1, .int x1), (2, .int x2)] (by decide) rfl dX9_run_51 (fun ls hl => ?_)
          exact hL_52  FU u4 0 hf _ _ hw _ (lv_sub hl [1, 2, 3, 0] rfl)
        · replace hf := ifp hf hc
          refine r_aload0 C hl 0 rfl dX9_run_40 ?_
          refine lv_iconst (v := 2) C.1 C.2.1 dX9_run_41 (by decide) ?_
          obtain ⟨u7, e7, hf⟩ := bx hf
          refine r_callVi (ws' := (dO G ad u7.2 dw ++ [])) (As := [.int 2]) (rest := []) C hw hl.1 kX9_refused ml_X9_210 (c_X9_refused l G ad _ d_ad1 dw 2 u7 e7) (CutX.take dO_f CutX.none) _ (gx_h dO_o) rfl ⟨rfl, rfl⟩ ⟨Nat.le_of_ble_eq_true rfl, Nat.le_of_ble_eq_true rfl⟩ rfl ⟨Nat.zero_le _, Nat.zero_le _⟩ rfl (Nat.le_of_ble_eq_true rfl) dX9_run_42 (fun H locs hw => ?_)
          exact fin_i C hw (Option.some.inj hf) (fun o => o.1) (fun o => (dO G ad o.2 dw ++ [])) rfl rfl dX9_run_45
      · replace hf := ifn hf hc
        exact hB_24  d_ad1 hf _ _ hw _ (lv_sub hl [0] rfl)
set_option maxHeartbeats 4000000 in
set_option maxRecDepth 100000 in
theorem c_X9_undo (l : Launch) (G : GG) (ad : Nat → Nat) (sz : Nat) (d_ad : Pic) (dw : Int64)  (out : Int32 × Pic) (hf : f_X9_undo d_ad = some out) : Met l yX9_undo (.code yX9_undo cX9_undo 2 (some .boolean) :: BT) ({ frames := 1, cells := 0, slots := 0, locals := 21 }) (va_Pc [.ref (ad 99)] (PreW G sz (dO G ad d_ad dw ++ []))) (Ans G out.1 (va_A (dO G ad d_ad dw ++ []) sz) (dO G ad out.2 dw ++ [])) 0 0 (va_A (dO G ad d_ad dw ++ []) sz) := by
  refine Met.into (by decide) (Nat.le_of_ble_eq_true rfl) ?_
  intro p e s m below meth c C hsz ls hl hw
  have hl : lv_has ls 2 [(0, .ref (ad 99))] := hl
  clear hsz
  generalize va_A (dO G ad d_ad dw ++ []) sz = A at hw ⊢
  have hB_19 : ∀ (d_ad : Pic), b_X9_undo_19   d_ad = some out → ∀ (H : Heap) (locs : List Loc), Wd G A s H locs (dO G ad d_ad dw ++ []) → ∀ ls : Array Slot, lv_has ls 2 [(0, .ref (ad 99))] → W p l e ({ frames := 1, cells := 0, slots := 0, locals := 21 }) s m [.ref (ad 99)].toArray below meth c H locs 0 0 (MQ below (Ans G out.1 A (dO G ad out.2 dw ++ [])) [.ref (ad 99)].toArray s 0 0 A) (F0 m 19 ls []) := by
    intro d_ad hf H locs hw ls hl
    unfold b_X9_undo_19 at hf
    refine r_aload0 C hl 0 rfl dX9_undo_19 ?_
    refine lv_iconst (v := 1) C.1 C.2.1 dX9_undo_20 (by decide) ?_
    obtain ⟨u2, e2, hf⟩ := bx hf
    refine r_callVi (ws' := (dO G ad u2.2 dw ++ [])) (As := [.int 1]) (rest := []) C hw hl.1 kX9_refused ml_X9_210 (c_X9_refused l G ad _ d_ad dw 1 u2 e2) (CutX.take dO_f CutX.none) _ (gx_h dO_o) rfl ⟨rfl, rfl⟩ ⟨Nat.le_of_ble_eq_true rfl, Nat.le_of_ble_eq_true rfl⟩ rfl ⟨Nat.zero_le _, Nat.zero_le _⟩ rfl (Nat.le_of_ble_eq_true rfl) dX9_undo_21 (fun H locs hw => ?_)
    refine lv_pop C.1 C.2.1 dX9_undo_24 rfl ?_
    refine lv_iconst (v := 0) C.1 C.2.1 dX9_undo_25 (by decide) ?_
    exact fin_z C hw (by decide) (Option.some.inj hf) (fun o => o.1) (fun o => (dO G ad o.2 dw ++ [])) rfl rfl dX9_undo_26
  have hB_39 : ∀ (k39 : Pic → Int32 → Option (Int32 × Pic)) (hk39 : ∀ (d_ad : Pic) (v1 : Int32), k39 d_ad v1 = some out → ∀ (H : Heap) (locs : List Loc), Wd G A s H locs (dO G ad d_ad dw ++ []) → ∀ ls : Array Slot, lv_has ls 2 [(0, .ref (ad 99)), (1, .int v1)] → W p l e ({ frames := 1, cells := 0, slots := 0, locals := 21 }) s m [.ref (ad 99)].toArray below meth c H locs 0 0 (MQ below (Ans G out.1 A (dO G ad out.2 dw ++ [])) [.ref (ad 99)].toArray s 0 0 A) (F0 m 39 ls [])), ∀ (d_ad : Pic) (v1 : Int32), b_X9_undo_39  k39 d_ad v1 = some out → ∀ (H : Heap) (locs : List Loc), Wd G A s H locs (dO G ad d_ad dw ++ []) → ∀ ls : Array Slot, lv_has ls 2 [(0, .ref (ad 99)), (1, .int v1)] → W p l e ({ frames := 1, cells := 0, slots := 0, locals := 21 }) s m [.ref (ad 99)].toArray below meth c H locs 0 0 (MQ below (Ans G out.1 A (dO G ad out.2 dw ++ [])) [.ref (ad 99)].toArray s 0 0 A) (F0 m 39 ls []) := by
    intro k39 hk39 d_ad v1 hf H locs hw ls hl
    unfold b_X9_undo_39 at hf
    refine r_iload0 C hl 1 rfl dX9_undo_39 ?_
    refine lv_sipush (v := 1234) C.1 C.2.1 dX9_undo_40 (by decide) ?_
    refine lv_icmp_ge (tgt := 73) C.1 C.2.1 dX9_undo_43 (by decide) (fun hc => ?_) (fun hc => ?_)
    · replace hf := ifp hf hc
      refine r_aload0 C hl 0 rfl dX9_undo_73 ?_
      refine lv_iconst (v := 0) C.1 C.2.1 dX9_undo_74 (by decide) ?_
      obtain ⟨u4, e4, hf⟩ := bx hf
      refine r_callVi (ws' := (dO G ad u4.2 dw ++ [])) (As := [.int 0]) (rest := []) C hw hl.1 kX9_good ml_X9_222 (c_X9_good l G ad _ d_ad dw 0 u4 e4) (CutX.take dO_f CutX.none) _ (gx_h dO_o) rfl ⟨rfl, rfl⟩ ⟨Nat.le_of_ble_eq_true rfl, Nat.le_of_ble_eq_true rfl⟩ rfl ⟨Nat.zero_le _, Nat.zero_le _⟩ rfl (Nat.le_of_ble_eq_true rfl) dX9_undo_75 (fun H locs hw => ?_)
      refine lv_pop C.1 C.2.1 dX9_undo_78 rfl ?_
      refine lv_iconst (v := 1) C.1 C.2.1 dX9_undo_79 (by decide) ?_
      exact fin_z C hw (by decide) (Option.some.inj hf) (fun o => o.1) (fun o => (dO G ad o.2 dw ++ [])) rfl rfl dX9_undo_80
    · replace hf := ifn hf hc
      refine r_aload0 C hl 0 rfl dX9_undo_46 ?_
      refine r_get C hw _ (gx_h dO_o) 20 fl_X9_35 rfl dX9_undo_47 ?_
      refine r_iload0 C hl 1 rfl dX9_undo_50 ?_
      refine r_aload0 C hl 0 rfl dX9_undo_51 ?_
      refine r_get C hw _ (gx_h dO_o) 22 fl_X9_41 rfl dX9_undo_52 ?_
      refine lv_sipush (v := 1234) C.1 C.2.1 dX9_undo_55 (by decide) ?_
      refine r_aload0 C hl 0 rfl dX9_undo_58 ?_
      refine r_get C hw _ (gx_h dO_o) 23 fl_X9_239 rfl dX9_undo_59 ?_
      refine lv_imul C.1 C.2.1 dX9_undo_62 ?_
      refine r_iload0 C hl 1 rfl dX9_undo_63 ?_
      refine lv_iadd C.1 C.2.1 dX9_undo_64 ?_
      obtain ⟨v5_, e5, hf⟩ := bx hf
      refine r_iald C hw _ (gx_h dO_g22) e5 dX9_undo_65 ?_
      obtain ⟨d_ad6, e6, hf⟩ := bx hf
      refine r_iast C hw _ (gx_h dO_g20) e6 (dO G ad d_ad6 dw ++ []) (fun h => (sx_h dO_g20 (dO_s20 h))) dX9_undo_66 (fun H locs hw => ?_)
      refine r_iinc C hl 1 (v1 + 1) [(1, .int (v1 + 1)), (0, .ref (ad 99))] rfl (iinc_e (by decide)) (by decide) rfl dX9_undo_67 (fun ls hl => ?_)
      refine lv_goto (tgt := 39) C.1 C.2.1 dX9_undo_70 (by decide) ?_
      exact hk39 d_ad6 (v1 + 1) hf _ _ hw _ (lv_sub hl [1, 0] rfl)
  have hL_39 : ∀ n : Nat, ∀ (d_ad : Pic) (v1 : Int32), L_X9_undo_39   n d_ad v1 = some out → ∀ (H : Heap) (locs : List Loc), Wd G A s H locs (dO G ad d_ad dw ++ []) → ∀ ls : Array Slot, lv_has ls 2 [(0, .ref (ad 99)), (1, .int v1)] → W p l e ({ frames := 1, cells := 0, slots := 0, locals := 21 }) s m [.ref (ad 99)].toArray below meth c H locs 0 0 (MQ below (Ans G out.1 A (dO G ad out.2 dw ++ [])) [.ref (ad 99)].toArray s 0 0 A) (F0 m 39 ls []) := by
    intro  n
    induction n with
    | zero => intro d_ad v1 hf; cases hf
    | succ n ih => exact hB_39 _ ih
  unfold f_X9_undo at hf
  refine r_aload0 C hl 0 rfl dX9_undo_0 ?_
  refine lv_iconst (v := 0) C.1 C.2.1 dX9_undo_1 (by decide) ?_
  obtain ⟨d_ad1, e1, hf⟩ := bx hf
  refine r_put C hw _ (gx_h dO_o) 0 fp_X9_75 rfl rfl (Nat.le_of_ble_eq_true rfl) (dO G ad d_ad1 dw ++ []) (sx_h dO_o (dO_p0 e1)) dX9_undo_2 (fun H locs hw => ?_)
  refine r_aload0 C hl 0 rfl dX9_undo_5 ?_
  refine r_get C hw _ (gx_h dO_o) 19 fl_X9_225 rfl dX9_undo_6 ?_
  refine lv_if_eq (tgt := 19) C.1 C.2.1 dX9_undo_9 (by decide) (fun hc => ?_) (fun hc => ?_)
  · replace hf := ifp hf hc
    exact hB_19  d_ad1 hf _ _ hw _ (lv_sub hl [0] rfl)
  · replace hf := ifn hf hc
    refine r_aload0 C hl 0 rfl dX9_undo_12 ?_
    refine r_get C hw _ (gx_h dO_o) 23 fl_X9_239 rfl dX9_undo_13 ?_
    refine lv_if_ne (tgt := 27) C.1 C.2.1 dX9_undo_16 (by decide) (fun hc => ?_) (fun hc => ?_)
    · replace hf := ifn hf hc
      refine r_aload0 C hl 0 rfl dX9_undo_27 ?_
      refine lv_dup C.1 C.2.1 dX9_undo_28 rfl ?_
      refine r_get C hw _ (gx_h dO_o) 23 fl_X9_239 rfl dX9_undo_29 ?_
      refine lv_iconst (v := 1) C.1 C.2.1 dX9_undo_32 (by decide) ?_
      refine lv_isub C.1 C.2.1 dX9_undo_33 ?_
      obtain ⟨d_ad3, e3, hf⟩ := bx hf
      refine r_put C hw _ (gx_h dO_o) 23 fp_X9_239 rfl rfl (Nat.le_of_ble_eq_true rfl) (dO G ad d_ad3 dw ++ []) (sx_h dO_o (dO_p23 e3)) dX9_undo_34 (fun H locs hw => ?_)
      refine lv_iconst (v := 0) C.1 C.2.1 dX9_undo_37 (by decide) ?_
      refine r_istore0 C hl [(1, .int 0), (0, .ref (ad 99))] (by decide) rfl dX9_undo_38 (fun ls hl => ?_)
      exact hL_39  FU d_ad3 0 hf _ _ hw _ (lv_sub hl [1, 0] rfl)
    · replace hf := ifp hf hc
      exact hB_19  d_ad1 hf _ _ hw _ (lv_sub hl [0] rfl)
set_option maxHeartbeats 4000000 in
set_option maxRecDepth 100000 in
theorem c_X9_onDisk (l : Launch) (G : GG) (ad : Nat → Nat) (sz : Nat) (d_ad : Pic) (dw : Int64) (x1 : Int32) (out : Int32 × Pic) (hf : f_X9_onDisk d_ad x1 = some out) : Met l yX9_onDisk (.code yX9_onDisk cX9_onDisk 4 (some .int) :: BT) ({ frames := 1, cells := 0, slots := 0, locals := 21 }) (va_Pc [.ref (ad 99), .int x1] (PreW G sz (dO G ad d_ad dw ++ []))) (Ans G out.1 (va_A (dO G ad d_ad dw ++ []) sz) (dO G ad out.2 dw ++ [])) 0 0 (va_A (dO G ad d_ad dw ++ []) sz) := by
  refine Met.into (by decide) (Nat.le_of_ble_eq_true rfl) ?_
  intro p e s m below meth c C hsz ls hl hw
  have hl : lv_has ls 4 [(0, .ref (ad 99)), (1, .int x1)] := hl
  clear hsz
  generalize va_A (dO G ad d_ad dw ++ []) sz = A at hw ⊢
  have hB_50 : ∀ (d_ad : Pic), b_X9_onDisk_50 x1  d_ad = some out → ∀ (H : Heap) (locs : List Loc), Wd G A s H locs (dO G ad d_ad dw ++ []) → ∀ ls : Array Slot, lv_has ls 4 [(0, .ref (ad 99))] → W p l e ({ frames := 1, cells := 0, slots := 0, locals := 21 }) s m [.ref (ad 99), .int x1].toArray below meth c H locs 0 0 (MQ below (Ans G out.1 A (dO G ad out.2 dw ++ [])) [.ref (ad 99), .int x1].toArray s 0 0 A) (F0 m 50 ls []) := by
    intro d_ad hf H locs hw ls hl
    unfold b_X9_onDisk_50 at hf
    refine r_aload0 C hl 0 rfl dX9_onDisk_50 ?_
    refine lv_iconst (v := 1) C.1 C.2.1 dX9_onDisk_51 (by decide) ?_
    obtain ⟨d_ad2, e2, hf⟩ := bx hf
    refine r_put C hw _ (gx_h dO_o) 0 fp_X9_75 rfl rfl (Nat.le_of_ble_eq_true rfl) (dO G ad d_ad2 dw ++ []) (sx_h dO_o (dO_p0 e2)) dX9_onDisk_52 (fun H locs hw => ?_)
    refine lv_iconst (v := 0) C.1 C.2.1 dX9_onDisk_55 (by decide) ?_
    exact fin_i C hw (Option.some.inj hf) (fun o => o.1) (fun o => (dO G ad o.2 dw ++ [])) rfl rfl dX9_onDisk_56
  have hB_9 : ∀ (k9 : Pic → Int32 → Int32 → Option (Int32 × Pic)) (hk9 : ∀ (d_ad : Pic) (v2 : Int32) (v3 : Int32), k9 d_ad v2 v3 = some out → ∀ (H : Heap) (locs : List Loc), Wd G A s H locs (dO G ad d_ad dw ++ []) → ∀ ls : Array Slot, lv_has ls 4 [(0, .ref (ad 99)), (1, .int x1), (2, .int v2), (3, .int v3)] → W p l e ({ frames := 1, cells := 0, slots := 0, locals := 21 }) s m [.ref (ad 99), .int x1].toArray below meth c H locs 0 0 (MQ below (Ans G out.1 A (dO G ad out.2 dw ++ [])) [.ref (ad 99), .int x1].toArray s 0 0 A) (F0 m 9 ls [])), ∀ (d_ad : Pic) (v2 : Int32) (v3 : Int32), b_X9_onDisk_9 x1 k9 d_ad v2 v3 = some out → ∀ (H : Heap) (locs : List Loc), Wd G A s H locs (dO G ad d_ad dw ++ []) → ∀ ls : Array Slot, lv_has ls 4 [(0, .ref (ad 99)), (1, .int x1), (2, .int v2), (3, .int v3)] → W p l e ({ frames := 1, cells := 0, slots := 0, locals := 21 }) s m [.ref (ad 99), .int x1].toArray below meth c H locs 0 0 (MQ below (Ans G out.1 A (dO G ad out.2 dw ++ [])) [.ref (ad 99), .int x1].toArray s 0 0 A) (F0 m 9 ls []) := by
    intro k9 hk9 d_ad v2 v3 hf H locs hw ls hl
    unfold b_X9_onDisk_9 at hf
    refine r_aload0 C hl 0 rfl dX9_onDisk_9 ?_
    refine r_get C hw _ (gx_h dO_o) 19 fl_X9_225 rfl dX9_onDisk_10 ?_
    refine lv_if_eq (tgt := 50) C.1 C.2.1 dX9_onDisk_13 (by decide) (fun hc => ?_) (fun hc => ?_)
    · replace hf := ifp hf hc
      exact hB_50  d_ad hf _ _ hw _ (lv_sub hl [0] rfl)
    · replace hf := ifn hf hc
      refine r_iload0 C hl 3 rfl dX9_onDisk_16 ?_
      refine lv_bipush (v := 30) C.1 C.2.1 dX9_onDisk_17 (by decide) ?_
      refine lv_icmp_ge (tgt := 50) C.1 C.2.1 dX9_onDisk_19 (by decide) (fun hc => ?_) (fun hc => ?_)
      · replace hf := ifp hf hc
        exact hB_50  d_ad hf _ _ hw _ (lv_sub hl [0] rfl)
      · replace hf := ifn hf hc
        refine r_aload0 C hl 0 rfl dX9_onDisk_22 ?_
        refine r_iload0 C hl 3 rfl dX9_onDisk_23 ?_
        obtain ⟨u3, e3, hf⟩ := bx hf
        refine r_callVi (ws' := (dO G ad d_ad dw ++ [])) (As := [.int v3]) (rest := []) C hw hl.1 kX9_placeOf ml_X9_325 (c_X9_placeOf l G ad _ d_ad dw v3 u3 e3) (CutX.take dO_f CutX.none) _ (gx_h dO_o) rfl ⟨rfl, rfl⟩ ⟨Nat.le_of_ble_eq_true rfl, Nat.le_of_ble_eq_true rfl⟩ rfl ⟨Nat.zero_le _, Nat.zero_le _⟩ rfl (Nat.le_of_ble_eq_true rfl) dX9_onDisk_24 (fun H locs hw => ?_)
        refine lv_iconst (v := 3) C.1 C.2.1 dX9_onDisk_27 (by decide) ?_
        refine lv_icmp_eq (tgt := 34) C.1 C.2.1 dX9_onDisk_28 (by decide) (fun hc => ?_) (fun hc => ?_)
        · replace hf := ifp hf hc
          refine r_iload0 C hl 2 rfl dX9_onDisk_34 ?_
          refine r_iload0 C hl 1 rfl dX9_onDisk_35 ?_
          refine lv_icmp_ne (tgt := 41) C.1 C.2.1 dX9_onDisk_36 (by decide) (fun hc => ?_) (fun hc => ?_)
          · replace hf := ifn hf hc
            refine r_iinc C hl 2 (v2 + 1) [(2, .int (v2 + 1)), (0, .ref (ad 99)), (1, .int x1), (3, .int v3)] rfl (iinc_e (by decide)) (by decide) rfl dX9_onDisk_41 (fun ls hl => ?_)
            refine r_iinc C hl 3 (v3 + 1) [(3, .int (v3 + 1)), (2, .int (v2 + 1)), (0, .ref (ad 99)), (1, .int x1)] rfl (iinc_e (by decide)) (by decide) rfl dX9_onDisk_44 (fun ls hl => ?_)
            refine lv_goto (tgt := 9) C.1 C.2.1 dX9_onDisk_47 (by decide) ?_
            exact hk9 d_ad (v2 + 1) (v3 + 1) hf _ _ hw _ (lv_sub hl [2, 3, 1, 0] rfl)
          · replace hf := ifp hf hc
            refine r_iload0 C hl 3 rfl dX9_onDisk_39 ?_
            exact fin_i C hw (Option.some.inj hf) (fun o => o.1) (fun o => (dO G ad o.2 dw ++ [])) rfl rfl dX9_onDisk_40
        · replace hf := ifn hf hc
          refine lv_goto (tgt := 44) C.1 C.2.1 dX9_onDisk_31 (by decide) ?_
          refine r_iinc C hl 3 (v3 + 1) [(3, .int (v3 + 1)), (0, .ref (ad 99)), (1, .int x1), (2, .int v2)] rfl (iinc_e (by decide)) (by decide) rfl dX9_onDisk_44 (fun ls hl => ?_)
          refine lv_goto (tgt := 9) C.1 C.2.1 dX9_onDisk_47 (by decide) ?_
          exact hk9 d_ad v2 (v3 + 1) hf _ _ hw _ (lv_sub hl [1, 2, 3, 0] rfl)
  have hL_9 : ∀ n : Nat, ∀ (d_ad : Pic) (v2 : Int32) (v3 : Int32), L_X9_onDisk_9 x1  n d_ad v2 v3 = some out → ∀ (H : Heap) (locs : List Loc), Wd G A s H locs (dO G ad d_ad dw ++ []) → ∀ ls : Array Slot, lv_has ls 4 [(0, .ref (ad 99)), (1, .int x1), (2, .int v2), (3, .int v3)] → W p l e ({ frames := 1, cells := 0, slots := 0, locals := 21 }) s m [.ref (ad 99), .int x1].toArray below meth c H locs 0 0 (MQ below (Ans G out.1 A (dO G ad out.2 dw ++ [])) [.ref (ad 99), .int x1].toArray s 0 0 A) (F0 m 9 ls []) := by
    intro  n
    induction n with
    | zero => intro d_ad v2 v3 hf; cases hf
    | succ n ih => exact hB_9 _ ih
  unfold f_X9_onDisk at hf
  refine r_aload0 C hl 0 rfl dX9_onDisk_0 ?_
  refine lv_iconst (v := 0) C.1 C.2.1 dX9_onDisk_1 (by decide) ?_
  obtain ⟨d_ad1, e1, hf⟩ := bx hf
  refine r_put C hw _ (gx_h dO_o) 0 fp_X9_75 rfl rfl (Nat.le_of_ble_eq_true rfl) (dO G ad d_ad1 dw ++ []) (sx_h dO_o (dO_p0 e1)) dX9_onDisk_2 (fun H locs hw => ?_)
  refine lv_iconst (v := 0) C.1 C.2.1 dX9_onDisk_5 (by decide) ?_
  refine r_istore0 C hl [(2, .int 0), (0, .ref (ad 99)), (1, .int x1)] (by decide) rfl dX9_onDisk_6 (fun ls hl => ?_)
  refine lv_iconst (v := 0) C.1 C.2.1 dX9_onDisk_7 (by decide) ?_
  refine r_istore0 C hl [(3, .int 0), (2, .int 0), (0, .ref (ad 99)), (1, .int x1)] (by decide) rfl dX9_onDisk_8 (fun ls hl => ?_)
  exact hL_9  FU d_ad1 0 0 hf _ _ hw _ (lv_sub hl [2, 3, 1, 0] rfl)
set_option maxHeartbeats 4000000 in
set_option maxRecDepth 100000 in
theorem c_X9_size (l : Launch) (G : GG) (ad : Nat → Nat) (sz : Nat) (d_ad : Pic) (dw : Int64) (x1 : Int32) (out : Int32 × Pic) (hf : f_X9_size d_ad x1 = some out) : Met l yX9_size (.code yX9_size cX9_size 2 (some .int) :: BT) ({ frames := 0, cells := 0, slots := 0, locals := 0 }) (va_Pc [.ref (ad 99), .int x1] (PreW G sz (dO G ad d_ad dw ++ []))) (Ans G out.1 (va_A (dO G ad d_ad dw ++ []) sz) (dO G ad out.2 dw ++ [])) 0 0 (va_A (dO G ad d_ad dw ++ []) sz) := by
  refine Met.into (by decide) (Nat.le_of_ble_eq_true rfl) ?_
  intro p e s m below meth c C hsz ls hl hw
  have hl : lv_has ls 2 [(0, .ref (ad 99)), (1, .int x1)] := hl
  clear hsz
  generalize va_A (dO G ad d_ad dw ++ []) sz = A at hw ⊢
  unfold f_X9_size at hf
  refine r_aload0 C hl 0 rfl dX9_size_0 ?_
  refine lv_iconst (v := 0) C.1 C.2.1 dX9_size_1 (by decide) ?_
  obtain ⟨d_ad1, e1, hf⟩ := bx hf
  refine r_put C hw _ (gx_h dO_o) 0 fp_X9_75 rfl rfl (Nat.le_of_ble_eq_true rfl) (dO G ad d_ad1 dw ++ []) (sx_h dO_o (dO_p0 e1)) dX9_size_2 (fun H locs hw => ?_)
  refine r_iload0 C hl 1 rfl dX9_size_5 ?_
  refine lv_if_ne (tgt := 16) C.1 C.2.1 dX9_size_6 (by decide) (fun hc => ?_) (fun hc => ?_)
  · replace hf := ifn hf hc
    refine r_iload0 C hl 1 rfl dX9_size_16 ?_
    refine lv_iconst (v := 1) C.1 C.2.1 dX9_size_17 (by decide) ?_
    refine lv_icmp_ne (tgt := 28) C.1 C.2.1 dX9_size_18 (by decide) (fun hc => ?_) (fun hc => ?_)
    · replace hf := ifn hf hc
      refine lv_iconst (v := (-1)) C.1 C.2.1 dX9_size_28 (by decide) ?_
      exact fin_i C hw (Option.some.inj hf) (fun o => o.1) (fun o => (dO G ad o.2 dw ++ [])) rfl rfl dX9_size_29
    · replace hf := ifp hf hc
      refine r_aload0 C hl 0 rfl dX9_size_21 ?_
      refine r_get C hw _ (gx_h dO_o) 23 fl_X9_239 rfl dX9_size_22 ?_
      refine lv_goto (tgt := 29) C.1 C.2.1 dX9_size_25 (by decide) ?_
      exact fin_i C hw (Option.some.inj hf) (fun o => o.1) (fun o => (dO G ad o.2 dw ++ [])) rfl rfl dX9_size_29
  · replace hf := ifp hf hc
    refine r_aload0 C hl 0 rfl dX9_size_9 ?_
    refine r_get C hw _ (gx_h dO_o) 25 fl_X9_207 rfl dX9_size_10 ?_
    refine lv_goto (tgt := 29) C.1 C.2.1 dX9_size_13 (by decide) ?_
    exact fin_i C hw (Option.some.inj hf) (fun o => o.1) (fun o => (dO G ad o.2 dw ++ [])) rfl rfl dX9_size_29
set_option maxHeartbeats 4000000 in
set_option maxRecDepth 100000 in
theorem c_X9_trouble (l : Launch) (G : GG) (ad : Nat → Nat) (sz : Nat) (d_ad : Pic) (dw : Int64)  (out : Int32 × Pic) (hf : f_X9_trouble d_ad = some out) : Met l yX9_trouble (.code yX9_trouble cX9_trouble 1 (some .int) :: BT) ({ frames := 0, cells := 0, slots := 0, locals := 0 }) (va_Pc [.ref (ad 99)] (PreW G sz (dO G ad d_ad dw ++ []))) (Ans G out.1 (va_A (dO G ad d_ad dw ++ []) sz) (dO G ad out.2 dw ++ [])) 0 0 (va_A (dO G ad d_ad dw ++ []) sz) := by
  refine Met.into (by decide) (Nat.le_of_ble_eq_true rfl) ?_
  intro p e s m below meth c C hsz ls hl hw
  have hl : lv_has ls 1 [(0, .ref (ad 99))] := hl
  clear hsz
  generalize va_A (dO G ad d_ad dw ++ []) sz = A at hw ⊢
  unfold f_X9_trouble at hf
  refine r_aload0 C hl 0 rfl dX9_trouble_0 ?_
  refine lv_iconst (v := 0) C.1 C.2.1 dX9_trouble_1 (by decide) ?_
  obtain ⟨d_ad1, e1, hf⟩ := bx hf
  refine r_put C hw _ (gx_h dO_o) 0 fp_X9_75 rfl rfl (Nat.le_of_ble_eq_true rfl) (dO G ad d_ad1 dw ++ []) (sx_h dO_o (dO_p0 e1)) dX9_trouble_2 (fun H locs hw => ?_)
  refine r_aload0 C hl 0 rfl dX9_trouble_5 ?_
  refine r_get C hw _ (gx_h dO_o) 1 fl_X9_78 rfl dX9_trouble_6 ?_
  exact fin_i C hw (Option.some.inj hf) (fun o => o.1) (fun o => (dO G ad o.2 dw ++ [])) rfl rfl dX9_trouble_9
set_option maxHeartbeats 4000000 in
set_option maxRecDepth 100000 in
theorem c_X9_goOn (l : Launch) (G : GG) (ad : Nat → Nat) (sz : Nat) (d_ad : Pic) (dw : Int64)  (out : Pic × Int64) (hf : f_X9_goOn d_ad dw = some out) : Met l yX9_goOn (.code yX9_goOn cX9_goOn 2 none :: BT) ({ frames := 2, cells := 0, slots := 0, locals := 42 }) (va_Pc [.ref (ad 99)] (PreW G sz (dO G ad d_ad dw ++ []))) (Don G (va_A (dO G ad d_ad dw ++ []) sz) (dO G ad out.1 out.2 ++ [])) 0 0 (va_A (dO G ad d_ad dw ++ []) sz) := by
  refine Met.into (by decide) (Nat.le_of_ble_eq_true rfl) ?_
  intro p e s m below meth c C hsz ls hl hw
  have hl : lv_has ls 2 [(0, .ref (ad 99))] := hl
  clear hsz
  generalize va_A (dO G ad d_ad dw ++ []) sz = A at hw ⊢
  have hB_8 : ∀ (k8 : Pic → Int64 → Option (Pic × Int64)) (hk8 : ∀ (d_ad : Pic) (dw : Int64), k8 d_ad dw = some out → ∀ (H : Heap) (locs : List Loc), Wd G A s H locs (dO G ad d_ad dw ++ []) → ∀ ls : Array Slot, lv_has ls 2 [(0, .ref (ad 99))] → W p l e ({ frames := 2, cells := 0, slots := 0, locals := 42 }) s m [.ref (ad 99)].toArray below meth c H locs 0 0 (MQ below (Don G A (dO G ad out.1 out.2 ++ [])) [.ref (ad 99)].toArray s 0 0 A) (F0 m 8 ls [])), ∀ (d_ad : Pic) (dw : Int64), b_X9_goOn_8  k8 d_ad dw = some out → ∀ (H : Heap) (locs : List Loc), Wd G A s H locs (dO G ad d_ad dw ++ []) → ∀ ls : Array Slot, lv_has ls 2 [(0, .ref (ad 99))] → W p l e ({ frames := 2, cells := 0, slots := 0, locals := 42 }) s m [.ref (ad 99)].toArray below meth c H locs 0 0 (MQ below (Don G A (dO G ad out.1 out.2 ++ [])) [.ref (ad 99)].toArray s 0 0 A) (F0 m 8 ls []) := by
    intro k8 hk8 d_ad dw hf H locs hw ls hl
    unfold b_X9_goOn_8 at hf
    refine r_aload0 C hl 0 rfl dX9_goOn_8 ?_
    refine r_aload0 C hl 0 rfl dX9_goOn_9 ?_
    refine r_get C hw _ (gx_h dO_o) 27 fl_X9_87 rfl dX9_goOn_10 ?_
    obtain ⟨u1, e1, hf⟩ := bx hf
    refine r_callVi (ws' := (dO G ad d_ad dw ++ [])) (As := [.int (gS d_ad 27)]) (rest := []) C hw hl.1 kX9_byteAt ml_X9_90 (c_X9_byteAt l G ad _ d_ad dw (gS d_ad 27) u1 e1) (CutX.take dO_f CutX.none) _ (gx_h dO_o) rfl ⟨rfl, rfl⟩ ⟨Nat.le_of_ble_eq_true rfl, Nat.le_of_ble_eq_true rfl⟩ rfl ⟨Nat.zero_le _, Nat.zero_le _⟩ rfl (Nat.le_of_ble_eq_true rfl) dX9_goOn_13 (fun H locs hw => ?_)
    refine lv_bipush (v := 32) C.1 C.2.1 dX9_goOn_16 (by decide) ?_
    refine lv_icmp_ne (tgt := 34) C.1 C.2.1 dX9_goOn_18 (by decide) (fun hc => ?_) (fun hc => ?_)
    · replace hf := ifn hf hc
      refine r_aload0 C hl 0 rfl dX9_goOn_34 ?_
      refine r_aload0 C hl 0 rfl dX9_goOn_35 ?_
      refine r_get C hw _ (gx_h dO_o) 27 fl_X9_87 rfl dX9_goOn_36 ?_
      obtain ⟨d_ad2, e2, hf⟩ := bx hf
      refine r_put C hw _ (gx_h dO_o) 29 fp_X9_94 rfl rfl (Nat.le_of_ble_eq_true rfl) (dO G ad d_ad2 dw ++ []) (sx_h dO_o (dO_p29 e2)) dX9_goOn_39 (fun H locs hw => ?_)
      refine r_aload0 C hl 0 rfl dX9_goOn_42 ?_
      refine r_aload0 C hl 0 rfl dX9_goOn_43 ?_
      refine r_get C hw _ (gx_h dO_o) 27 fl_X9_87 rfl dX9_goOn_44 ?_
      obtain ⟨u3, e3, hf⟩ := bx hf
      refine r_callVi (ws' := (dO G ad d_ad2 dw ++ [])) (As := [.int (gS d_ad2 27)]) (rest := []) C hw hl.1 kX9_byteAt ml_X9_90 (c_X9_byteAt l G ad _ d_ad2 dw (gS d_ad2 27) u3 e3) (CutX.take dO_f CutX.none) _ (gx_h dO_o) rfl ⟨rfl, rfl⟩ ⟨Nat.le_of_ble_eq_true rfl, Nat.le_of_ble_eq_true rfl⟩ rfl ⟨Nat.zero_le _, Nat.zero_le _⟩ rfl (Nat.le_of_ble_eq_true rfl) dX9_goOn_47 (fun H locs hw => ?_)
      refine r_istore0 C hl [(1, .int u3), (0, .ref (ad 99))] (by decide) rfl dX9_goOn_50 (fun ls hl => ?_)
      refine r_iload0 C hl 0 rfl dX9_goOn_51 ?_
      refine lv_iconst (v := (-1)) C.1 C.2.1 dX9_goOn_52 (by decide) ?_
      refine lv_icmp_ne (tgt := 64) C.1 C.2.1 dX9_goOn_53 (by decide) (fun hc => ?_) (fun hc => ?_)
      · replace hf := ifn hf hc
        refine r_iload0 C hl 0 rfl dX9_goOn_64 ?_
        refine lv_bipush (v := 97) C.1 C.2.1 dX9_goOn_65 (by decide) ?_
        refine lv_bipush (v := 122) C.1 C.2.1 dX9_goOn_67 (by decide) ?_
        obtain ⟨u4, e4, hf⟩ := bx hf
        refine r_callSi (ws' := (dO G ad d_ad2 dw ++ [])) (As := [.int u3, .int 97, .int 122]) (rest := []) C hw hl.1 kX9_in ml_X9_100 (c_X9_in l G _ u3 97 122 u4 e4) CutX.none ⟨rfl, rfl⟩ ⟨Nat.le_of_ble_eq_true rfl, Nat.le_of_ble_eq_true rfl⟩ rfl ⟨Nat.zero_le _, Nat.zero_le _⟩ rfl (Nat.le_of_ble_eq_true rfl) dX9_goOn_69 (fun H locs hw => ?_)
        refine lv_if_eq (tgt := 82) C.1 C.2.1 dX9_goOn_72 (by decide) (fun hc => ?_) (fun hc => ?_)
        · replace hf := ifp hf hc
          refine r_iload0 C hl 0 rfl dX9_goOn_82 ?_
          refine lv_bipush (v := 48) C.1 C.2.1 dX9_goOn_83 (by decide) ?_
          refine lv_bipush (v := 57) C.1 C.2.1 dX9_goOn_85 (by decide) ?_
          obtain ⟨u5, e5, hf⟩ := bx hf
          refine r_callSi (ws' := (dO G ad d_ad2 dw ++ [])) (As := [.int u3, .int 48, .int 57]) (rest := []) C hw hl.1 kX9_in ml_X9_100 (c_X9_in l G _ u3 48 57 u5 e5) CutX.none ⟨rfl, rfl⟩ ⟨Nat.le_of_ble_eq_true rfl, Nat.le_of_ble_eq_true rfl⟩ rfl ⟨Nat.zero_le _, Nat.zero_le _⟩ rfl (Nat.le_of_ble_eq_true rfl) dX9_goOn_87 (fun H locs hw => ?_)
          refine lv_if_eq (tgt := 100) C.1 C.2.1 dX9_goOn_90 (by decide) (fun hc => ?_) (fun hc => ?_)
          · replace hf := ifp hf hc
            refine r_aload0 C hl 1 rfl dX9_goOn_100 ?_
            refine r_iload0 C hl 0 rfl dX9_goOn_101 ?_
            obtain ⟨u6, e6, hf⟩ := bx hf
            refine r_callVv (ws' := (dO G ad u6 dw ++ [])) (As := [.int u3]) (rest := []) C hw hl.1 kX9_nextSign ml_X9_110 (c_X9_nextSign l G ad _ d_ad2 dw u3 u6 e6) (CutX.take dO_f CutX.none) _ (gx_h dO_o) rfl ⟨rfl, rfl⟩ ⟨Nat.le_of_ble_eq_true rfl, Nat.le_of_ble_eq_true rfl⟩ rfl ⟨Nat.zero_le _, Nat.zero_le _⟩ rfl (Nat.le_of_ble_eq_true rfl) dX9_goOn_102 (fun H locs hw => ?_)
            exact fin_v C hw (Option.some.inj hf) (fun o => (dO G ad o.1 o.2 ++ [])) rfl dX9_goOn_105
          · replace hf := ifn hf hc
            refine r_aload0 C hl 1 rfl dX9_goOn_93 ?_
            obtain ⟨u7, e7, hf⟩ := bx hf
            refine r_callVv (ws' := (dO G ad u7 dw ++ [])) (As := []) (rest := []) C hw hl.1 kX9_nextWhole ml_X9_107 (c_X9_nextWhole l G ad _ d_ad2 dw u7 e7) (CutX.take dO_f CutX.none) _ (gx_h dO_o) rfl ⟨rfl, rfl⟩ ⟨Nat.le_of_ble_eq_true rfl, Nat.le_of_ble_eq_true rfl⟩ rfl ⟨Nat.zero_le _, Nat.zero_le _⟩ rfl (Nat.le_of_ble_eq_true rfl) dX9_goOn_94 (fun H locs hw => ?_)
            refine lv_goto (tgt := 105) C.1 C.2.1 dX9_goOn_97 (by decide) ?_
            exact fin_v C hw (Option.some.inj hf) (fun o => (dO G ad o.1 o.2 ++ [])) rfl dX9_goOn_105
        · replace hf := ifn hf hc
          refine r_aload0 C hl 1 rfl dX9_goOn_75 ?_
          obtain ⟨u8, e8, hf⟩ := bx hf
          refine r_callVv (ws' := (dO G ad u8.1 u8.2 ++ [])) (As := []) (rest := []) C hw hl.1 kX9_nextWord ml_X9_104 (c_X9_nextWord l G ad _ d_ad2 dw u8 e8) (CutX.take dO_f CutX.none) _ (gx_h dO_o) rfl ⟨rfl, rfl⟩ ⟨Nat.le_of_ble_eq_true rfl, Nat.le_of_ble_eq_true rfl⟩ rfl ⟨Nat.zero_le _, Nat.zero_le _⟩ rfl (Nat.le_of_ble_eq_true rfl) dX9_goOn_76 (fun H locs hw => ?_)
          refine lv_goto (tgt := 105) C.1 C.2.1 dX9_goOn_79 (by decide) ?_
          exact fin_v C hw (Option.some.inj hf) (fun o => (dO G ad o.1 o.2 ++ [])) rfl dX9_goOn_105
      · replace hf := ifp hf hc
        refine r_aload0 C hl 1 rfl dX9_goOn_56 ?_
        refine lv_iconst (v := 1) C.1 C.2.1 dX9_goOn_57 (by decide) ?_
        obtain ⟨d_ad9, e9, hf⟩ := bx hf
        refine r_put C hw _ (gx_h dO_o) 28 fp_X9_97 rfl rfl (Nat.le_of_ble_eq_true rfl) (dO G ad d_ad9 dw ++ []) (sx_h dO_o (dO_p28 e9)) dX9_goOn_58 (fun H locs hw => ?_)
        refine lv_goto (tgt := 105) C.1 C.2.1 dX9_goOn_61 (by decide) ?_
        exact fin_v C hw (Option.some.inj hf) (fun o => (dO G ad o.1 o.2 ++ [])) rfl dX9_goOn_105
    · replace hf := ifp hf hc
      refine r_aload0 C hl 0 rfl dX9_goOn_21 ?_
      refine lv_dup C.1 C.2.1 dX9_goOn_22 rfl ?_
      refine r_get C hw _ (gx_h dO_o) 27 fl_X9_87 rfl dX9_goOn_23 ?_
      refine lv_iconst (v := 1) C.1 C.2.1 dX9_goOn_26 (by decide) ?_
      refine lv_iadd C.1 C.2.1 dX9_goOn_27 ?_
      obtain ⟨d_ad10, e10, hf⟩ := bx hf
      refine r_put C hw _ (gx_h dO_o) 27 fp_X9_87 rfl rfl (Nat.le_of_ble_eq_true rfl) (dO G ad d_ad10 dw ++ []) (sx_h dO_o (dO_p27 e10)) dX9_goOn_28 (fun H locs hw => ?_)
      refine lv_goto (tgt := 8) C.1 C.2.1 dX9_goOn_31 (by decide) ?_
      exact hk8 d_ad10 dw hf _ _ hw _ (lv_sub hl [0] rfl)
  have hL_8 : ∀ n : Nat, ∀ (d_ad : Pic) (dw : Int64), L_X9_goOn_8   n d_ad dw = some out → ∀ (H : Heap) (locs : List Loc), Wd G A s H locs (dO G ad d_ad dw ++ []) → ∀ ls : Array Slot, lv_has ls 2 [(0, .ref (ad 99))] → W p l e ({ frames := 2, cells := 0, slots := 0, locals := 42 }) s m [.ref (ad 99)].toArray below meth c H locs 0 0 (MQ below (Don G A (dO G ad out.1 out.2 ++ [])) [.ref (ad 99)].toArray s 0 0 A) (F0 m 8 ls []) := by
    intro  n
    induction n with
    | zero => intro d_ad dw hf; cases hf
    | succ n ih => exact hB_8 _ ih
  unfold f_X9_goOn at hf
  refine r_aload0 C hl 0 rfl dX9_goOn_0 ?_
  refine r_get C hw _ (gx_h dO_o) 31 fl_X9_84 rfl dX9_goOn_1 ?_
  refine lv_if_le (tgt := 8) C.1 C.2.1 dX9_goOn_4 (by decide) (fun hc => ?_) (fun hc => ?_)
  · replace hf := ifp hf hc
    exact hL_8  FU d_ad dw hf _ _ hw _ (lv_sub hl [0] rfl)
  · replace hf := ifn hf hc
    exact fin_v C hw (Option.some.inj hf) (fun o => (dO G ad o.1 o.2 ++ [])) rfl dX9_goOn_7
set_option maxHeartbeats 4000000 in
set_option maxRecDepth 100000 in
theorem c_X9_readWhole (l : Launch) (G : GG) (ad : Nat → Nat) (sz : Nat) (d_ad : Pic) (dw : Int64) (x1 x2 : Int32) (out : Int32 × Pic × Int64) (hf : f_X9_readWhole d_ad dw x1 x2 = some out) : Met l yX9_readWhole (.code yX9_readWhole cX9_readWhole 4 (some .int) :: BT) ({ frames := 3, cells := 0, slots := 0, locals := 63 }) (va_Pc [.ref (ad 99), .int x1, .int x2] (PreW G sz (dO G ad d_ad dw ++ []))) (Ans G out.1 (va_A (dO G ad d_ad dw ++ []) sz) (dO G ad out.2.1 out.2.2 ++ [])) 0 0 (va_A (dO G ad d_ad dw ++ []) sz) := by
  refine Met.into (by decide) (Nat.le_of_ble_eq_true rfl) ?_
  intro p e s m below meth c C hsz ls hl hw
  have hl : lv_has ls 4 [(0, .ref (ad 99)), (1, .int x1), (2, .int x2)] := hl
  clear hsz
  generalize va_A (dO G ad d_ad dw ++ []) sz = A at hw ⊢
  unfold f_X9_readWhole at hf
  refine r_aload0 C hl 0 rfl dX9_readWhole_0 ?_
  refine r_iload0 C hl 1 rfl dX9_readWhole_1 ?_
  refine r_iload0 C hl 2 rfl dX9_readWhole_2 ?_
  obtain ⟨u1, e1, hf⟩ := bx hf
  refine r_callVi (ws' := (dO G ad u1.2 dw ++ [])) (As := [.int x1, .int x2]) (rest := []) C hw hl.1 kX9_wholeAt ml_X9_134 (c_X9_wholeAt l G ad _ d_ad dw x1 x2 u1 e1) (CutX.take dO_f CutX.none) _ (gx_h dO_o) rfl ⟨rfl, rfl⟩ ⟨Nat.le_of_ble_eq_true rfl, Nat.le_of_ble_eq_true rfl⟩ rfl ⟨Nat.zero_le _, Nat.zero_le _⟩ rfl (Nat.le_of_ble_eq_true rfl) dX9_readWhole_3 (fun H locs hw => ?_)
  refine r_istore0 C hl [(3, .int u1.1), (0, .ref (ad 99)), (1, .int x1), (2, .int x2)] (by decide) rfl dX9_readWhole_6 (fun ls hl => ?_)
  refine r_aload0 C hl 1 rfl dX9_readWhole_7 ?_
  obtain ⟨u2, e2, hf⟩ := bx hf
  refine r_callVv (ws' := (dO G ad u2.1 u2.2 ++ [])) (As := []) (rest := []) C hw hl.1 kX9_goOn ml_X9_138 (c_X9_goOn l G ad _ u1.2 dw u2 e2) (CutX.take dO_f CutX.none) _ (gx_h dO_o) rfl ⟨rfl, rfl⟩ ⟨Nat.le_of_ble_eq_true rfl, Nat.le_of_ble_eq_true rfl⟩ rfl ⟨Nat.zero_le _, Nat.zero_le _⟩ rfl (Nat.le_of_ble_eq_true rfl) dX9_readWhole_8 (fun H locs hw => ?_)
  refine r_iload0 C hl 0 rfl dX9_readWhole_11 ?_
  exact fin_i C hw (Option.some.inj hf) (fun o => o.1) (fun o => (dO G ad o.2.1 o.2.2 ++ [])) rfl rfl dX9_readWhole_12
set_option maxHeartbeats 4000000 in
set_option maxRecDepth 100000 in
theorem c_X9_begins (l : Launch) (G : GG) (ad : Nat → Nat) (sz : Nat) (d_ad : Pic) (dw : Int64) (x1 : Int32) (out : Pic × Int64) (hf : f_X9_begins d_ad dw x1 = some out) : Met l yX9_begins (.code yX9_begins cX9_begins 2 none :: BT) ({ frames := 3, cells := 0, slots := 0, locals := 63 }) (va_Pc [.ref (ad 99), .int x1] (PreW G sz (dO G ad d_ad dw ++ []))) (Don G (va_A (dO G ad d_ad dw ++ []) sz) (dO G ad out.1 out.2 ++ [])) 0 0 (va_A (dO G ad d_ad dw ++ []) sz) := by
  refine Met.into (by decide) (Nat.le_of_ble_eq_true rfl) ?_
  intro p e s m below meth c C hsz ls hl hw
  have hl : lv_has ls 2 [(0, .ref (ad 99)), (1, .int x1)] := hl
  clear hsz
  generalize va_A (dO G ad d_ad dw ++ []) sz = A at hw ⊢
  have hB_21 : ∀ (d_ad : Pic) (dw : Int64), b_X9_begins_21 x1  d_ad dw = some out → ∀ (H : Heap) (locs : List Loc), Wd G A s H locs (dO G ad d_ad dw ++ []) → ∀ ls : Array Slot, lv_has ls 2 [(0, .ref (ad 99))] → W p l e ({ frames := 3, cells := 0, slots := 0, locals := 63 }) s m [.ref (ad 99), .int x1].toArray below meth c H locs 0 0 (MQ below (Don G A (dO G ad out.1 out.2 ++ [])) [.ref (ad 99), .int x1].toArray s 0 0 A) (F0 m 21 ls []) := by
    intro d_ad dw hf H locs hw ls hl
    unfold b_X9_begins_21 at hf
    refine r_aload0 C hl 0 rfl dX9_begins_21 ?_
    obtain ⟨u1, e1, hf⟩ := bx hf
    refine r_callVv (ws' := (dO G ad u1.1 u1.2 ++ [])) (As := []) (rest := []) C hw hl.1 kX9_goOn ml_X9_138 (c_X9_goOn l G ad _ d_ad dw u1 e1) (CutX.take dO_f CutX.none) _ (gx_h dO_o) rfl ⟨rfl, rfl⟩ ⟨Nat.le_of_ble_eq_true rfl, Nat.le_of_ble_eq_true rfl⟩ rfl ⟨Nat.zero_le _, Nat.zero_le _⟩ rfl (Nat.le_of_ble_eq_true rfl) dX9_begins_22 (fun H locs hw => ?_)
    exact fin_v C hw (Option.some.inj hf) (fun o => (dO G ad o.1 o.2 ++ [])) rfl dX9_begins_25
  have hB_9 : ∀ (d_ad : Pic) (dw : Int64), b_X9_begins_9 x1  d_ad dw = some out → ∀ (H : Heap) (locs : List Loc), Wd G A s H locs (dO G ad d_ad dw ++ []) → ∀ ls : Array Slot, lv_has ls 2 [(0, .ref (ad 99))] → W p l e ({ frames := 3, cells := 0, slots := 0, locals := 63 }) s m [.ref (ad 99), .int x1].toArray below meth c H locs 0 0 (MQ below (Don G A (dO G ad out.1 out.2 ++ [])) [.ref (ad 99), .int x1].toArray s 0 0 A) (F0 m 9 ls []) := by
    intro d_ad dw hf H locs hw ls hl
    unfold b_X9_begins_9 at hf
    refine r_aload0 C hl 0 rfl dX9_begins_9 ?_
    refine r_get C hw _ (gx_h dO_o) 7 fl_X9_148 rfl dX9_begins_10 ?_
    refine lv_if_ne (tgt := 21) C.1 C.2.1 dX9_begins_13 (by decide) (fun hc => ?_) (fun hc => ?_)
    · replace hf := ifn hf hc
      exact hB_21  d_ad dw hf _ _ hw _ (lv_sub hl [0] rfl)
    · replace hf := ifp hf hc
      refine r_aload0 C hl 0 rfl dX9_begins_16 ?_
      refine lv_iconst (v := 5) C.1 C.2.1 dX9_begins_17 (by decide) ?_
      obtain ⟨u2, e2, hf⟩ := bx hf
      refine r_callVv (ws' := (dO G ad u2 dw ++ [])) (As := [.int 5]) (rest := []) C hw hl.1 kX9_flaw ml_X9_131 (c_X9_flaw l G ad _ d_ad dw 5 u2 e2) (CutX.take dO_f CutX.none) _ (gx_h dO_o) rfl ⟨rfl, rfl⟩ ⟨Nat.le_of_ble_eq_true rfl, Nat.le_of_ble_eq_true rfl⟩ rfl ⟨Nat.zero_le _, Nat.zero_le _⟩ rfl (Nat.le_of_ble_eq_true rfl) dX9_begins_18 (fun H locs hw => ?_)
      exact hB_21  u2 dw hf _ _ hw _ (lv_sub hl [0] rfl)
  unfold f_X9_begins at hf
  refine r_iload0 C hl 1 rfl dX9_begins_0 ?_
  refine lv_if_eq (tgt := 9) C.1 C.2.1 dX9_begins_1 (by decide) (fun hc => ?_) (fun hc => ?_)
  · replace hf := ifp hf hc
    exact hB_9  d_ad dw hf _ _ hw _ (lv_sub hl [0] rfl)
  · replace hf := ifn hf hc
    refine r_aload0 C hl 0 rfl dX9_begins_4 ?_
    refine lv_iconst (v := 4) C.1 C.2.1 dX9_begins_5 (by decide) ?_
    obtain ⟨u3, e3, hf⟩ := bx hf
    refine r_callVv (ws' := (dO G ad u3 dw ++ [])) (As := [.int 4]) (rest := []) C hw hl.1 kX9_flaw ml_X9_131 (c_X9_flaw l G ad _ d_ad dw 4 u3 e3) (CutX.take dO_f CutX.none) _ (gx_h dO_o) rfl ⟨rfl, rfl⟩ ⟨Nat.le_of_ble_eq_true rfl, Nat.le_of_ble_eq_true rfl⟩ rfl ⟨Nat.zero_le _, Nat.zero_le _⟩ rfl (Nat.le_of_ble_eq_true rfl) dX9_begins_6 (fun H locs hw => ?_)
    exact hB_9  u3 dw hf _ _ hw _ (lv_sub hl [0] rfl)
set_option maxHeartbeats 4000000 in
set_option maxRecDepth 100000 in
theorem c_X9_readOp (l : Launch) (G : GG) (ad : Nat → Nat) (sz : Nat) (d_ad : Pic) (dw : Int64) (x1 : Int32) (out : Pic × Int64) (hf : f_X9_readOp d_ad dw x1 = some out) : Met l yX9_readOp (.code yX9_readOp cX9_readOp 4 none :: BT) ({ frames := 4, cells := 0, slots := 0, locals := 86 }) (va_Pc [.ref (ad 99), .int x1] (PreW G sz (dO G ad d_ad dw ++ []))) (Don G (va_A (dO G ad d_ad dw ++ []) sz) (dO G ad out.1 out.2 ++ [])) 0 0 (va_A (dO G ad d_ad dw ++ []) sz) := by
  refine Met.into (by decide) (Nat.le_of_ble_eq_true rfl) ?_
  intro p e s m below meth c C hsz ls hl hw
  have hl : lv_has ls 4 [(0, .ref (ad 99)), (1, .int x1)] := hl
  clear hsz
  generalize va_A (dO G ad d_ad dw ++ []) sz = A at hw ⊢
  have hB_46 : ∀ (d_ad : Pic) (dw : Int64) (v2 : Int32) (t0 : Int32), b_X9_readOp_46 x1  d_ad dw v2 t0 = some out → ∀ (H : Heap) (locs : List Loc), Wd G A s H locs (dO G ad d_ad dw ++ []) → ∀ ls : Array Slot, lv_has ls 4 [(0, .ref (ad 99)), (1, .int x1), (2, .int v2)] → W p l e ({ frames := 4, cells := 0, slots := 0, locals := 86 }) s m [.ref (ad 99), .int x1].toArray below meth c H locs 0 0 (MQ below (Don G A (dO G ad out.1 out.2 ++ [])) [.ref (ad 99), .int x1].toArray s 0 0 A) (F0 m 46 ls [.int t0]) := by
    intro d_ad dw v2 t0 hf H locs hw ls hl
    unfold b_X9_readOp_46 at hf
    refine r_istore0 C hl [(3, .int t0), (0, .ref (ad 99)), (1, .int x1), (2, .int v2)] (by decide) rfl dX9_readOp_46 (fun ls hl => ?_)
    refine r_aload0 C hl 1 rfl dX9_readOp_47 ?_
    refine r_get C hw _ (gx_h dO_o) 31 fl_X9_84 rfl dX9_readOp_48 ?_
    refine lv_if_le (tgt := 55) C.1 C.2.1 dX9_readOp_51 (by decide) (fun hc => ?_) (fun hc => ?_)
    · replace hf := ifp hf hc
      refine r_aload0 C hl 1 rfl dX9_readOp_55 ?_
      refine r_get C hw _ (gx_h dO_o) 15 fl_X9_23 rfl dX9_readOp_56 ?_
      refine r_aload0 C hl 1 rfl dX9_readOp_59 ?_
      refine r_get C hw _ (gx_h dO_o) 11 fl_X9_154 rfl dX9_readOp_60 ?_
      refine r_iload0 C hl 2 rfl dX9_readOp_63 ?_
      obtain ⟨d_ad3, e3, hf⟩ := bx hf
      refine r_iast C hw _ (gx_h dO_g15) e3 (dO G ad d_ad3 dw ++ []) (fun h => (sx_h dO_g15 (dO_s15 h))) dX9_readOp_64 (fun H locs hw => ?_)
      refine r_aload0 C hl 1 rfl dX9_readOp_65 ?_
      refine r_get C hw _ (gx_h dO_o) 16 fl_X9_26 rfl dX9_readOp_66 ?_
      refine r_aload0 C hl 1 rfl dX9_readOp_69 ?_
      refine r_get C hw _ (gx_h dO_o) 11 fl_X9_154 rfl dX9_readOp_70 ?_
      refine r_iload0 C hl 3 rfl dX9_readOp_73 ?_
      obtain ⟨d_ad4, e4, hf⟩ := bx hf
      refine r_iast C hw _ (gx_h dO_g16) e4 (dO G ad d_ad4 dw ++ []) (fun h => (sx_h dO_g16 (dO_s16 h))) dX9_readOp_74 (fun H locs hw => ?_)
      refine r_aload0 C hl 1 rfl dX9_readOp_75 ?_
      refine r_get C hw _ (gx_h dO_o) 17 fl_X9_29 rfl dX9_readOp_76 ?_
      refine r_aload0 C hl 1 rfl dX9_readOp_79 ?_
      refine r_get C hw _ (gx_h dO_o) 11 fl_X9_154 rfl dX9_readOp_80 ?_
      refine r_iload0 C hl 0 rfl dX9_readOp_83 ?_
      obtain ⟨d_ad5, e5, hf⟩ := bx hf
      refine r_iast C hw _ (gx_h dO_g17) e5 (dO G ad d_ad5 dw ++ []) (fun h => (sx_h dO_g17 (dO_s17 h))) dX9_readOp_84 (fun H locs hw => ?_)
      refine r_aload0 C hl 1 rfl dX9_readOp_85 ?_
      refine lv_dup C.1 C.2.1 dX9_readOp_86 rfl ?_
      refine r_get C hw _ (gx_h dO_o) 11 fl_X9_154 rfl dX9_readOp_87 ?_
      refine lv_iconst (v := 1) C.1 C.2.1 dX9_readOp_90 (by decide) ?_
      refine lv_iadd C.1 C.2.1 dX9_readOp_91 ?_
      obtain ⟨d_ad6, e6, hf⟩ := bx hf
      refine r_put C hw _ (gx_h dO_o) 11 fp_X9_154 rfl rfl (Nat.le_of_ble_eq_true rfl) (dO G ad d_ad6 dw ++ []) (sx_h dO_o (dO_p11 e6)) dX9_readOp_92 (fun H locs hw => ?_)
      exact fin_v C hw (Option.some.inj hf) (fun o => (dO G ad o.1 o.2 ++ [])) rfl dX9_readOp_95
    · replace hf := ifn hf hc
      exact fin_v C hw (Option.some.inj hf) (fun o => (dO G ad o.1 o.2 ++ [])) rfl dX9_readOp_54
  have hB_15 : ∀ (d_ad : Pic) (dw : Int64) (t0 : Int32), b_X9_readOp_15 x1  d_ad dw t0 = some out → ∀ (H : Heap) (locs : List Loc), Wd G A s H locs (dO G ad d_ad dw ++ []) → ∀ ls : Array Slot, lv_has ls 4 [(0, .ref (ad 99)), (1, .int x1)] → W p l e ({ frames := 4, cells := 0, slots := 0, locals := 86 }) s m [.ref (ad 99), .int x1].toArray below meth c H locs 0 0 (MQ below (Don G A (dO G ad out.1 out.2 ++ [])) [.ref (ad 99), .int x1].toArray s 0 0 A) (F0 m 15 ls [.int t0, .ref (ad 99)]) := by
    intro d_ad dw t0 hf H locs hw ls hl
    unfold b_X9_readOp_15 at hf
    obtain ⟨u1, e1, hf⟩ := bx hf
    refine r_callVv (ws' := (dO G ad u1.1 u1.2 ++ [])) (As := [.int t0]) (rest := []) C hw hl.1 kX9_begins ml_X9_199 (c_X9_begins l G ad _ d_ad dw t0 u1 e1) (CutX.take dO_f CutX.none) _ (gx_h dO_o) rfl ⟨rfl, rfl⟩ ⟨Nat.le_of_ble_eq_true rfl, Nat.le_of_ble_eq_true rfl⟩ rfl ⟨Nat.zero_le _, Nat.zero_le _⟩ rfl (Nat.le_of_ble_eq_true rfl) dX9_readOp_15 (fun H locs hw => ?_)
    refine r_aload0 C hl 0 rfl dX9_readOp_18 ?_
    refine lv_iconst (v := 0) C.1 C.2.1 dX9_readOp_19 (by decide) ?_
    refine lv_bipush (v := 29) C.1 C.2.1 dX9_readOp_20 (by decide) ?_
    obtain ⟨u2, e2, hf⟩ := bx hf
    refine r_callVi (ws' := (dO G ad u2.2.1 u2.2.2 ++ [])) (As := [.int 0, .int 29]) (rest := []) C hw hl.1 kX9_readWhole ml_X9_145 (c_X9_readWhole l G ad _ u1.1 u1.2 0 29 u2 e2) (CutX.take dO_f CutX.none) _ (gx_h dO_o) rfl ⟨rfl, rfl⟩ ⟨Nat.le_of_ble_eq_true rfl, Nat.le_of_ble_eq_true rfl⟩ rfl ⟨Nat.zero_le _, Nat.zero_le _⟩ rfl (Nat.le_of_ble_eq_true rfl) dX9_readOp_22 (fun H locs hw => ?_)
    refine r_istore0 C hl [(2, .int u2.1), (0, .ref (ad 99)), (1, .int x1)] (by decide) rfl dX9_readOp_25 (fun ls hl => ?_)
    refine r_iload0 C hl 2 rfl dX9_readOp_26 ?_
    refine lv_if_ne (tgt := 44) C.1 C.2.1 dX9_readOp_27 (by decide) (fun hc => ?_) (fun hc => ?_)
    · replace hf := ifn hf hc
      refine lv_bipush (v := (-2)) C.1 C.2.1 dX9_readOp_44 (by decide) ?_
      exact hB_46  u2.2.1 u2.2.2 u2.1 (-2) hf _ _ hw _ (lv_sub hl [1, 2, 0] rfl)
    · replace hf := ifp hf hc
      refine r_aload0 C hl 1 rfl dX9_readOp_30 ?_
      refine lv_iconst (v := 0) C.1 C.2.1 dX9_readOp_31 (by decide) ?_
      refine r_aload0 C hl 1 rfl dX9_readOp_32 ?_
      refine r_get C hw _ (gx_h dO_o) 10 fl_X9_151 rfl dX9_readOp_33 ?_
      refine lv_iconst (v := 1) C.1 C.2.1 dX9_readOp_36 (by decide) ?_
      refine lv_isub C.1 C.2.1 dX9_readOp_37 ?_
      obtain ⟨u7, e7, hf⟩ := bx hf
      refine r_callVi (ws' := (dO G ad u7.2.1 u7.2.2 ++ [])) (As := [.int 0, .int ((gS u2.2.1 10) - 1)]) (rest := []) C hw hl.1 kX9_readWhole ml_X9_145 (c_X9_readWhole l G ad _ u2.2.1 u2.2.2 0 ((gS u2.2.1 10) - 1) u7 e7) (CutX.take dO_f CutX.none) _ (gx_h dO_o) rfl ⟨rfl, rfl⟩ ⟨Nat.le_of_ble_eq_true rfl, Nat.le_of_ble_eq_true rfl⟩ rfl ⟨Nat.zero_le _, Nat.zero_le _⟩ rfl (Nat.le_of_ble_eq_true rfl) dX9_readOp_38 (fun H locs hw => ?_)
      refine lv_goto (tgt := 46) C.1 C.2.1 dX9_readOp_41 (by decide) ?_
      exact hB_46  u7.2.1 u7.2.2 u2.1 u7.1 hf _ _ hw _ (lv_sub hl [1, 2, 0] rfl)
  unfold f_X9_readOp at hf
  refine r_aload0 C hl 0 rfl dX9_readOp_0 ?_
  refine r_aload0 C hl 0 rfl dX9_readOp_1 ?_
  refine r_get C hw _ (gx_h dO_o) 11 fl_X9_154 rfl dX9_readOp_2 ?_
  refine lv_bipush (v := 24) C.1 C.2.1 dX9_readOp_5 (by decide) ?_
  refine lv_icmp_ne (tgt := 14) C.1 C.2.1 dX9_readOp_7 (by decide) (fun hc => ?_) (fun hc => ?_)
  · replace hf := ifn hf hc
    refine lv_iconst (v := 0) C.1 C.2.1 dX9_readOp_14 (by decide) ?_
    exact hB_15  d_ad dw 0 hf _ _ hw _ (lv_sub hl [0, 1] rfl)
  · replace hf := ifp hf hc
    refine lv_iconst (v := 1) C.1 C.2.1 dX9_readOp_10 (by decide) ?_
    refine lv_goto (tgt := 15) C.1 C.2.1 dX9_readOp_11 (by decide) ?_
    exact hB_15  d_ad dw 1 hf _ _ hw _ (lv_sub hl [0, 1] rfl)
set_option maxHeartbeats 4000000 in
set_option maxRecDepth 100000 in
theorem c_X9_takesOver (l : Launch) (G : GG) (ad : Nat → Nat) (sz : Nat) (d_ad : Pic) (dw : Int64)  (out : Pic) (hf : f_X9_takesOver d_ad = some out) : Met l yX9_takesOver (.code yX9_takesOver cX9_takesOver 2 none :: BT) ({ frames := 2, cells := 0, slots := 0, locals := 43 }) (va_Pc [.ref (ad 99)] (PreW G sz (dO G ad d_ad dw ++ []))) (Don G (va_A (dO G ad d_ad dw ++ []) sz) (dO G ad out dw ++ [])) 0 0 (va_A (dO G ad d_ad dw ++ []) sz) := by
  refine Met.into (by decide) (Nat.le_of_ble_eq_true rfl) ?_
  intro p e s m below meth c C hsz ls hl hw
  have hl : lv_has ls 2 [(0, .ref (ad 99))] := hl
  clear hsz
  generalize va_A (dO G ad d_ad dw ++ []) sz = A at hw ⊢
  have hB_103 : ∀ (k103 : Pic → Int32 → Option (Pic)) (hk103 : ∀ (d_ad : Pic) (v1 : Int32), k103 d_ad v1 = some out → ∀ (H : Heap) (locs : List Loc), Wd G A s H locs (dO G ad d_ad dw ++ []) → ∀ ls : Array Slot, lv_has ls 2 [(0, .ref (ad 99)), (1, .int v1)] → W p l e ({ frames := 2, cells := 0, slots := 0, locals := 43 }) s m [.ref (ad 99)].toArray below meth c H locs 0 0 (MQ below (Don G A (dO G ad out dw ++ [])) [.ref (ad 99)].toArray s 0 0 A) (F0 m 103 ls [])), ∀ (d_ad : Pic) (v1 : Int32), b_X9_takesOver_103  k103 d_ad v1 = some out → ∀ (H : Heap) (locs : List Loc), Wd G A s H locs (dO G ad d_ad dw ++ []) → ∀ ls : Array Slot, lv_has ls 2 [(0, .ref (ad 99)), (1, .int v1)] → W p l e ({ frames := 2, cells := 0, slots := 0, locals := 43 }) s m [.ref (ad 99)].toArray below meth c H locs 0 0 (MQ below (Don G A (dO G ad out dw ++ [])) [.ref (ad 99)].toArray s 0 0 A) (F0 m 103 ls []) := by
    intro k103 hk103 d_ad v1 hf H locs hw ls hl
    unfold b_X9_takesOver_103 at hf
    refine r_iload0 C hl 1 rfl dX9_takesOver_103 ?_
    refine lv_sipush (v := 160) C.1 C.2.1 dX9_takesOver_104 (by decide) ?_
    refine lv_icmp_ge (tgt := 130) C.1 C.2.1 dX9_takesOver_107 (by decide) (fun hc => ?_) (fun hc => ?_)
    · replace hf := ifp hf hc
      refine r_aload0 C hl 0 rfl dX9_takesOver_130 ?_
      refine lv_iconst (v := 0) C.1 C.2.1 dX9_takesOver_131 (by decide) ?_
      obtain ⟨d_ad8, e8, hf⟩ := bx hf
      refine r_put C hw _ (gx_h dO_o) 23 fp_X9_239 rfl rfl (Nat.le_of_ble_eq_true rfl) (dO G ad d_ad8 dw ++ []) (sx_h dO_o (dO_p23 e8)) dX9_takesOver_132 (fun H locs hw => ?_)
      exact fin_v C hw (Option.some.inj hf) (fun o => (dO G ad o dw ++ [])) rfl dX9_takesOver_135
    · replace hf := ifn hf hc
      refine r_aload0 C hl 0 rfl dX9_takesOver_110 ?_
      refine r_get C hw _ (gx_h dO_o) 20 fl_X9_35 rfl dX9_takesOver_111 ?_
      refine lv_iconst (v := 5) C.1 C.2.1 dX9_takesOver_114 (by decide) ?_
      refine r_iload0 C hl 1 rfl dX9_takesOver_115 ?_
      refine lv_iadd C.1 C.2.1 dX9_takesOver_116 ?_
      refine r_aload0 C hl 0 rfl dX9_takesOver_117 ?_
      refine r_get C hw _ (gx_h dO_o) 18 fl_X9_32 rfl dX9_takesOver_118 ?_
      refine r_iload0 C hl 1 rfl dX9_takesOver_121 ?_
      obtain ⟨v9_, e9, hf⟩ := bx hf
      refine r_iald C hw _ (gx_h dO_g18) e9 dX9_takesOver_122 ?_
      obtain ⟨d_ad10, e10, hf⟩ := bx hf
      refine r_iast C hw _ (gx_h dO_g20) e10 (dO G ad d_ad10 dw ++ []) (fun h => (sx_h dO_g20 (dO_s20 h))) dX9_takesOver_123 (fun H locs hw => ?_)
      refine r_iinc C hl 1 (v1 + 1) [(1, .int (v1 + 1)), (0, .ref (ad 99))] rfl (iinc_e (by decide)) (by decide) rfl dX9_takesOver_124 (fun ls hl => ?_)
      refine lv_goto (tgt := 103) C.1 C.2.1 dX9_takesOver_127 (by decide) ?_
      exact hk103 d_ad10 (v1 + 1) hf _ _ hw _ (lv_sub hl [1, 0] rfl)
  have hL_103 : ∀ n : Nat, ∀ (d_ad : Pic) (v1 : Int32), L_X9_takesOver_103   n d_ad v1 = some out → ∀ (H : Heap) (locs : List Loc), Wd G A s H locs (dO G ad d_ad dw ++ []) → ∀ ls : Array Slot, lv_has ls 2 [(0, .ref (ad 99)), (1, .int v1)] → W p l e ({ frames := 2, cells := 0, slots := 0, locals := 43 }) s m [.ref (ad 99)].toArray below meth c H locs 0 0 (MQ below (Don G A (dO G ad out dw ++ [])) [.ref (ad 99)].toArray s 0 0 A) (F0 m 103 ls []) := by
    intro  n
    induction n with
    | zero => intro d_ad v1 hf; cases hf
    | succ n ih => exact hB_103 _ ih
  have hB_39 : ∀ (k39 : Pic → Int32 → Option (Pic)) (hk39 : ∀ (d_ad : Pic) (v1 : Int32), k39 d_ad v1 = some out → ∀ (H : Heap) (locs : List Loc), Wd G A s H locs (dO G ad d_ad dw ++ []) → ∀ ls : Array Slot, lv_has ls 2 [(0, .ref (ad 99)), (1, .int v1)] → W p l e ({ frames := 2, cells := 0, slots := 0, locals := 43 }) s m [.ref (ad 99)].toArray below meth c H locs 0 0 (MQ below (Don G A (dO G ad out dw ++ [])) [.ref (ad 99)].toArray s 0 0 A) (F0 m 39 ls [])), ∀ (d_ad : Pic) (v1 : Int32), b_X9_takesOver_39  k39 d_ad v1 = some out → ∀ (H : Heap) (locs : List Loc), Wd G A s H locs (dO G ad d_ad dw ++ []) → ∀ ls : Array Slot, lv_has ls 2 [(0, .ref (ad 99)), (1, .int v1)] → W p l e ({ frames := 2, cells := 0, slots := 0, locals := 43 }) s m [.ref (ad 99)].toArray below meth c H locs 0 0 (MQ below (Don G A (dO G ad out dw ++ [])) [.ref (ad 99)].toArray s 0 0 A) (F0 m 39 ls []) := by
    intro k39 hk39 d_ad v1 hf H locs hw ls hl
    unfold b_X9_takesOver_39 at hf
    refine r_iload0 C hl 1 rfl dX9_takesOver_39 ?_
    refine lv_bipush (v := 24) C.1 C.2.1 dX9_takesOver_40 (by decide) ?_
    refine lv_icmp_ge (tgt := 87) C.1 C.2.1 dX9_takesOver_42 (by decide) (fun hc => ?_) (fun hc => ?_)
    · replace hf := ifp hf hc
      refine r_aload0 C hl 0 rfl dX9_takesOver_87 ?_
      obtain ⟨u6, e6, hf⟩ := bx hf
      refine r_callVv (ws' := (dO G ad u6 dw ++ [])) (As := []) (rest := []) C hw hl.1 kX9_clears ml_X9_236 (c_X9_clears l G ad _ d_ad dw u6 e6) (CutX.take dO_f CutX.none) _ (gx_h dO_o) rfl ⟨rfl, rfl⟩ ⟨Nat.le_of_ble_eq_true rfl, Nat.le_of_ble_eq_true rfl⟩ rfl ⟨Nat.zero_le _, Nat.zero_le _⟩ rfl (Nat.le_of_ble_eq_true rfl) dX9_takesOver_88 (fun H locs hw => ?_)
      refine r_aload0 C hl 0 rfl dX9_takesOver_91 ?_
      refine r_get C hw _ (gx_h dO_o) 20 fl_X9_35 rfl dX9_takesOver_92 ?_
      refine lv_iconst (v := 0) C.1 C.2.1 dX9_takesOver_95 (by decide) ?_
      refine r_aload0 C hl 0 rfl dX9_takesOver_96 ?_
      refine r_get C hw _ (gx_h dO_o) 7 fl_X9_148 rfl dX9_takesOver_97 ?_
      obtain ⟨d_ad7, e7, hf⟩ := bx hf
      refine r_iast C hw _ (gx_h dO_g20) e7 (dO G ad d_ad7 dw ++ []) (fun h => (sx_h dO_g20 (dO_s20 h))) dX9_takesOver_100 (fun H locs hw => ?_)
      refine lv_iconst (v := 0) C.1 C.2.1 dX9_takesOver_101 (by decide) ?_
      refine r_istore0 C hl [(1, .int 0), (0, .ref (ad 99))] (by decide) rfl dX9_takesOver_102 (fun ls hl => ?_)
      exact hL_103  FU d_ad7 0 hf _ _ hw _ (lv_sub hl [1, 0] rfl)
    · replace hf := ifn hf hc
      refine r_aload0 C hl 0 rfl dX9_takesOver_45 ?_
      refine r_get C hw _ (gx_h dO_o) 12 fl_X9_13 rfl dX9_takesOver_46 ?_
      refine r_iload0 C hl 1 rfl dX9_takesOver_49 ?_
      refine r_aload0 C hl 0 rfl dX9_takesOver_50 ?_
      refine r_get C hw _ (gx_h dO_o) 15 fl_X9_23 rfl dX9_takesOver_51 ?_
      refine r_iload0 C hl 1 rfl dX9_takesOver_54 ?_
      obtain ⟨v11_, e11, hf⟩ := bx hf
      refine r_iald C hw _ (gx_h dO_g15) e11 dX9_takesOver_55 ?_
      obtain ⟨d_ad12, e12, hf⟩ := bx hf
      refine r_iast C hw _ (gx_h dO_g12) e12 (dO G ad d_ad12 dw ++ []) (fun h => (sx_h dO_g12 (dO_s12 h))) dX9_takesOver_56 (fun H locs hw => ?_)
      refine r_aload0 C hl 0 rfl dX9_takesOver_57 ?_
      refine r_get C hw _ (gx_h dO_o) 13 fl_X9_17 rfl dX9_takesOver_58 ?_
      refine r_iload0 C hl 1 rfl dX9_takesOver_61 ?_
      refine r_aload0 C hl 0 rfl dX9_takesOver_62 ?_
      refine r_get C hw _ (gx_h dO_o) 16 fl_X9_26 rfl dX9_takesOver_63 ?_
      refine r_iload0 C hl 1 rfl dX9_takesOver_66 ?_
      obtain ⟨v13_, e13, hf⟩ := bx hf
      refine r_iald C hw _ (gx_h dO_g16) e13 dX9_takesOver_67 ?_
      obtain ⟨d_ad14, e14, hf⟩ := bx hf
      refine r_iast C hw _ (gx_h dO_g13) e14 (dO G ad d_ad14 dw ++ []) (fun h => (sx_h dO_g13 (dO_s13 h))) dX9_takesOver_68 (fun H locs hw => ?_)
      refine r_aload0 C hl 0 rfl dX9_takesOver_69 ?_
      refine r_get C hw _ (gx_h dO_o) 14 fl_X9_20 rfl dX9_takesOver_70 ?_
      refine r_iload0 C hl 1 rfl dX9_takesOver_73 ?_
      refine r_aload0 C hl 0 rfl dX9_takesOver_74 ?_
      refine r_get C hw _ (gx_h dO_o) 17 fl_X9_29 rfl dX9_takesOver_75 ?_
      refine r_iload0 C hl 1 rfl dX9_takesOver_78 ?_
      obtain ⟨v15_, e15, hf⟩ := bx hf
      refine r_iald C hw _ (gx_h dO_g17) e15 dX9_takesOver_79 ?_
      obtain ⟨d_ad16, e16, hf⟩ := bx hf
      refine r_iast C hw _ (gx_h dO_g14) e16 (dO G ad d_ad16 dw ++ []) (fun h => (sx_h dO_g14 (dO_s14 h))) dX9_takesOver_80 (fun H locs hw => ?_)
      refine r_iinc C hl 1 (v1 + 1) [(1, .int (v1 + 1)), (0, .ref (ad 99))] rfl (iinc_e (by decide)) (by decide) rfl dX9_takesOver_81 (fun ls hl => ?_)
      refine lv_goto (tgt := 39) C.1 C.2.1 dX9_takesOver_84 (by decide) ?_
      exact hk39 d_ad16 (v1 + 1) hf _ _ hw _ (lv_sub hl [1, 0] rfl)
  have hL_39 : ∀ n : Nat, ∀ (d_ad : Pic) (v1 : Int32), L_X9_takesOver_39   n d_ad v1 = some out → ∀ (H : Heap) (locs : List Loc), Wd G A s H locs (dO G ad d_ad dw ++ []) → ∀ ls : Array Slot, lv_has ls 2 [(0, .ref (ad 99)), (1, .int v1)] → W p l e ({ frames := 2, cells := 0, slots := 0, locals := 43 }) s m [.ref (ad 99)].toArray below meth c H locs 0 0 (MQ below (Don G A (dO G ad out dw ++ [])) [.ref (ad 99)].toArray s 0 0 A) (F0 m 39 ls []) := by
    intro  n
    induction n with
    | zero => intro d_ad v1 hf; cases hf
    | succ n ih => exact hB_39 _ ih
  unfold f_X9_takesOver at hf
  refine r_aload0 C hl 0 rfl dX9_takesOver_0 ?_
  refine lv_iconst (v := 1) C.1 C.2.1 dX9_takesOver_1 (by decide) ?_
  obtain ⟨d_ad1, e1, hf⟩ := bx hf
  refine r_put C hw _ (gx_h dO_o) 19 fp_X9_225 (by decide) rfl (Nat.le_of_ble_eq_true rfl) (dO G ad d_ad1 dw ++ []) (sx_h dO_o (dO_p19 e1)) dX9_takesOver_2 (fun H locs hw => ?_)
  refine r_aload0 C hl 0 rfl dX9_takesOver_5 ?_
  refine r_aload0 C hl 0 rfl dX9_takesOver_6 ?_
  refine r_get C hw _ (gx_h dO_o) 8 fl_X9_193 rfl dX9_takesOver_7 ?_
  obtain ⟨d_ad2, e2, hf⟩ := bx hf
  refine r_put C hw _ (gx_h dO_o) 3 fp_X9_229 rfl rfl (Nat.le_of_ble_eq_true rfl) (dO G ad d_ad2 dw ++ []) (sx_h dO_o (dO_p3 e2)) dX9_takesOver_10 (fun H locs hw => ?_)
  refine r_aload0 C hl 0 rfl dX9_takesOver_13 ?_
  refine r_aload0 C hl 0 rfl dX9_takesOver_14 ?_
  refine r_get C hw _ (gx_h dO_o) 9 fl_X9_196 rfl dX9_takesOver_15 ?_
  obtain ⟨d_ad3, e3, hf⟩ := bx hf
  refine r_put C hw _ (gx_h dO_o) 4 fp_X9_231 rfl rfl (Nat.le_of_ble_eq_true rfl) (dO G ad d_ad3 dw ++ []) (sx_h dO_o (dO_p4 e3)) dX9_takesOver_18 (fun H locs hw => ?_)
  refine r_aload0 C hl 0 rfl dX9_takesOver_21 ?_
  refine r_aload0 C hl 0 rfl dX9_takesOver_22 ?_
  refine r_get C hw _ (gx_h dO_o) 10 fl_X9_151 rfl dX9_takesOver_23 ?_
  obtain ⟨d_ad4, e4, hf⟩ := bx hf
  refine r_put C hw _ (gx_h dO_o) 5 fp_X9_219 rfl rfl (Nat.le_of_ble_eq_true rfl) (dO G ad d_ad4 dw ++ []) (sx_h dO_o (dO_p5 e4)) dX9_takesOver_26 (fun H locs hw => ?_)
  refine r_aload0 C hl 0 rfl dX9_takesOver_29 ?_
  refine r_aload0 C hl 0 rfl dX9_takesOver_30 ?_
  refine r_get C hw _ (gx_h dO_o) 11 fl_X9_154 rfl dX9_takesOver_31 ?_
  obtain ⟨d_ad5, e5, hf⟩ := bx hf
  refine r_put C hw _ (gx_h dO_o) 6 fp_X9_233 rfl rfl (Nat.le_of_ble_eq_true rfl) (dO G ad d_ad5 dw ++ []) (sx_h dO_o (dO_p6 e5)) dX9_takesOver_34 (fun H locs hw => ?_)
  refine lv_iconst (v := 0) C.1 C.2.1 dX9_takesOver_37 (by decide) ?_
  refine r_istore0 C hl [(1, .int 0), (0, .ref (ad 99))] (by decide) rfl dX9_takesOver_38 (fun ls hl => ?_)
  exact hL_39  FU d_ad5 0 hf _ _ hw _ (lv_sub hl [1, 0] rfl)
set_option maxHeartbeats 4000000 in
set_option maxRecDepth 100000 in
theorem c_X9_sizes (l : Launch) (G : GG) (ad : Nat → Nat) (sz : Nat) (d_ad : Pic) (dw : Int64) (x1 x2 : Int32) (out : Int32 × Pic) (hf : f_X9_sizes d_ad x1 x2 = some out) : Met l yX9_sizes (.code yX9_sizes cX9_sizes 3 (some .int) :: BT) ({ frames := 3, cells := 0, slots := 0, locals := 67 }) (va_Pc [.ref (ad 99), .int x1, .int x2] (PreW G sz (dO G ad d_ad dw ++ []))) (Ans G out.1 (va_A (dO G ad d_ad dw ++ []) sz) (dO G ad out.2 dw ++ [])) 0 0 (va_A (dO G ad d_ad dw ++ []) sz) := by
  refine Met.into (by decide) (Nat.le_of_ble_eq_true rfl) ?_
  intro p e s m below meth c C hsz ls hl hw
  have hl : lv_has ls 3 [(0, .ref (ad 99)), (1, .int x1), (2, .int x2)] := hl
  clear hsz
  generalize va_A (dO G ad d_ad dw ++ []) sz = A at hw ⊢
  have hB_22 : ∀ (d_ad : Pic), b_X9_sizes_22 x1 x2  d_ad = some out → ∀ (H : Heap) (locs : List Loc), Wd G A s H locs (dO G ad d_ad dw ++ []) → ∀ ls : Array Slot, lv_has ls 3 [(0, .ref (ad 99))] → W p l e ({ frames := 3, cells := 0, slots := 0, locals := 67 }) s m [.ref (ad 99), .int x1, .int x2].toArray below meth c H locs 0 0 (MQ below (Ans G out.1 A (dO G ad out.2 dw ++ [])) [.ref (ad 99), .int x1, .int x2].toArray s 0 0 A) (F0 m 22 ls []) := by
    intro d_ad hf H locs hw ls hl
    unfold b_X9_sizes_22 at hf
    refine r_aload0 C hl 0 rfl dX9_sizes_22 ?_
    refine lv_iconst (v := 1) C.1 C.2.1 dX9_sizes_23 (by decide) ?_
    obtain ⟨u3, e3, hf⟩ := bx hf
    refine r_callVi (ws' := (dO G ad u3.2 dw ++ [])) (As := [.int 1]) (rest := []) C hw hl.1 kX9_refused ml_X9_210 (c_X9_refused l G ad _ d_ad dw 1 u3 e3) (CutX.take dO_f CutX.none) _ (gx_h dO_o) rfl ⟨rfl, rfl⟩ ⟨Nat.le_of_ble_eq_true rfl, Nat.le_of_ble_eq_true rfl⟩ rfl ⟨Nat.zero_le _, Nat.zero_le _⟩ rfl (Nat.le_of_ble_eq_true rfl) dX9_sizes_24 (fun H locs hw => ?_)
    exact fin_i C hw (Option.some.inj hf) (fun o => o.1) (fun o => (dO G ad o.2 dw ++ [])) rfl rfl dX9_sizes_27
  unfold f_X9_sizes at hf
  refine r_aload0 C hl 0 rfl dX9_sizes_0 ?_
  refine lv_iconst (v := 0) C.1 C.2.1 dX9_sizes_1 (by decide) ?_
  obtain ⟨d_ad1, e1, hf⟩ := bx hf
  refine r_put C hw _ (gx_h dO_o) 0 fp_X9_75 rfl rfl (Nat.le_of_ble_eq_true rfl) (dO G ad d_ad1 dw ++ []) (sx_h dO_o (dO_p0 e1)) dX9_sizes_2 (fun H locs hw => ?_)
  refine r_aload0 C hl 0 rfl dX9_sizes_5 ?_
  refine r_iload0 C hl 1 rfl dX9_sizes_6 ?_
  obtain ⟨u2, e2, hf⟩ := bx hf
  refine r_callVi (ws' := (dO G ad d_ad1 dw ++ [])) (As := [.int x1]) (rest := []) C hw hl.1 kX9_isClass ml_X9_292 (c_X9_isClass l G ad _ d_ad1 dw x1 u2 e2) (CutX.take dO_f CutX.none) _ (gx_h dO_o) rfl ⟨rfl, rfl⟩ ⟨Nat.le_of_ble_eq_true rfl, Nat.le_of_ble_eq_true rfl⟩ rfl ⟨Nat.zero_le _, Nat.zero_le _⟩ rfl (Nat.le_of_ble_eq_true rfl) dX9_sizes_7 (fun H locs hw => ?_)
  refine lv_if_eq (tgt := 22) C.1 C.2.1 dX9_sizes_10 (by decide) (fun hc => ?_) (fun hc => ?_)
  · replace hf := ifp hf hc
    exact hB_22  d_ad1 hf _ _ hw _ (lv_sub hl [0] rfl)
  · replace hf := ifn hf hc
    refine r_iload0 C hl 2 rfl dX9_sizes_13 ?_
    refine lv_iconst (v := 0) C.1 C.2.1 dX9_sizes_14 (by decide) ?_
    refine lv_iconst (v := 4) C.1 C.2.1 dX9_sizes_15 (by decide) ?_
    obtain ⟨u4, e4, hf⟩ := bx hf
    refine r_callSi (ws' := (dO G ad d_ad1 dw ++ [])) (As := [.int x2, .int 0, .int 4]) (rest := []) C hw hl.1 kX9_in ml_X9_100 (c_X9_in l G _ x2 0 4 u4 e4) CutX.none ⟨rfl, rfl⟩ ⟨Nat.le_of_ble_eq_true rfl, Nat.le_of_ble_eq_true rfl⟩ rfl ⟨Nat.zero_le _, Nat.zero_le _⟩ rfl (Nat.le_of_ble_eq_true rfl) dX9_sizes_16 (fun H locs hw => ?_)
    refine lv_if_ne (tgt := 28) C.1 C.2.1 dX9_sizes_19 (by decide) (fun hc => ?_) (fun hc => ?_)
    · replace hf := ifn hf hc
      refine r_iload0 C hl 2 rfl dX9_sizes_28 ?_
      rcases Decidable.em (x2 = 0) with hc | h0_
      · replace hf := ifp hf hc
        refine lv_tableIn (tgt := 60) C.1 C.2.1 dX9_sizes_29 (by rw [hc]; decide) (by rw [hc]; decide) (by rw [hc]; rfl) (by decide) ?_
        refine r_aload0 C hl 0 rfl dX9_sizes_60 ?_
        refine r_iload0 C hl 1 rfl dX9_sizes_61 ?_
        obtain ⟨u14, e14, hf⟩ := bx hf
        refine r_callSi (ws' := (dO G ad d_ad1 dw ++ [])) (As := [.int x1]) (rest := [.ref (ad 99)]) C hw hl.1 kX9_framesOf ml_X9_286 (c_X9_framesOf l G _ x1 u14 e14) CutX.none ⟨rfl, rfl⟩ ⟨Nat.le_of_ble_eq_true rfl, Nat.le_of_ble_eq_true rfl⟩ rfl ⟨Nat.zero_le _, Nat.zero_le _⟩ rfl (Nat.le_of_ble_eq_true rfl) dX9_sizes_62 (fun H locs hw => ?_)
        obtain ⟨u15, e15, hf⟩ := bx hf
        refine r_callVi (ws' := (dO G ad u15.2 dw ++ [])) (As := [.int u14]) (rest := []) C hw hl.1 kX9_good ml_X9_222 (c_X9_good l G ad _ d_ad1 dw u14 u15 e15) (CutX.take dO_f CutX.none) _ (gx_h dO_o) rfl ⟨rfl, rfl⟩ ⟨Nat.le_of_ble_eq_true rfl, Nat.le_of_ble_eq_true rfl⟩ rfl ⟨Nat.zero_le _, Nat.zero_le _⟩ rfl (Nat.le_of_ble_eq_true rfl) dX9_sizes_65 (fun H locs hw => ?_)
        exact fin_i C hw (Option.some.inj hf) (fun o => o.1) (fun o => (dO G ad o.2 dw ++ [])) rfl rfl dX9_sizes_68
      replace hf := ifn hf h0_
      rcases Decidable.em (x2 = 1) with hc | h1_
      · replace hf := ifp hf hc
        refine lv_tableIn (tgt := 69) C.1 C.2.1 dX9_sizes_29 (by rw [hc]; decide) (by rw [hc]; decide) (by rw [hc]; rfl) (by decide) ?_
        refine r_aload0 C hl 0 rfl dX9_sizes_69 ?_
        refine r_iload0 C hl 1 rfl dX9_sizes_70 ?_
        obtain ⟨u12, e12, hf⟩ := bx hf
        refine r_callSi (ws' := (dO G ad d_ad1 dw ++ [])) (As := [.int x1]) (rest := [.ref (ad 99)]) C hw hl.1 kX9_slotsOf ml_X9_295 (c_X9_slotsOf l G _ x1 u12 e12) CutX.none ⟨rfl, rfl⟩ ⟨Nat.le_of_ble_eq_true rfl, Nat.le_of_ble_eq_true rfl⟩ rfl ⟨Nat.zero_le _, Nat.zero_le _⟩ rfl (Nat.le_of_ble_eq_true rfl) dX9_sizes_71 (fun H locs hw => ?_)
        obtain ⟨u13, e13, hf⟩ := bx hf
        refine r_callVi (ws' := (dO G ad u13.2 dw ++ [])) (As := [.int u12]) (rest := []) C hw hl.1 kX9_good ml_X9_222 (c_X9_good l G ad _ d_ad1 dw u12 u13 e13) (CutX.take dO_f CutX.none) _ (gx_h dO_o) rfl ⟨rfl, rfl⟩ ⟨Nat.le_of_ble_eq_true rfl, Nat.le_of_ble_eq_true rfl⟩ rfl ⟨Nat.zero_le _, Nat.zero_le _⟩ rfl (Nat.le_of_ble_eq_true rfl) dX9_sizes_74 (fun H locs hw => ?_)
        exact fin_i C hw (Option.some.inj hf) (fun o => o.1) (fun o => (dO G ad o.2 dw ++ [])) rfl rfl dX9_sizes_77
      replace hf := ifn hf h1_
      rcases Decidable.em (x2 = 2) with hc | h2_
      · replace hf := ifp hf hc
        refine lv_tableIn (tgt := 78) C.1 C.2.1 dX9_sizes_29 (by rw [hc]; decide) (by rw [hc]; decide) (by rw [hc]; rfl) (by decide) ?_
        refine r_aload0 C hl 0 rfl dX9_sizes_78 ?_
        refine lv_bipush (v := 16) C.1 C.2.1 dX9_sizes_79 (by decide) ?_
        refine r_iload0 C hl 1 rfl dX9_sizes_81 ?_
        obtain ⟨u9, e9, hf⟩ := bx hf
        refine r_callSi (ws' := (dO G ad d_ad1 dw ++ [])) (As := [.int x1]) (rest := [.int 16, .ref (ad 99)]) C hw hl.1 kX9_framesOf ml_X9_286 (c_X9_framesOf l G _ x1 u9 e9) CutX.none ⟨rfl, rfl⟩ ⟨Nat.le_of_ble_eq_true rfl, Nat.le_of_ble_eq_true rfl⟩ rfl ⟨Nat.zero_le _, Nat.zero_le _⟩ rfl (Nat.le_of_ble_eq_true rfl) dX9_sizes_82 (fun H locs hw => ?_)
        refine lv_imul C.1 C.2.1 dX9_sizes_85 ?_
        refine r_iload0 C hl 1 rfl dX9_sizes_86 ?_
        obtain ⟨v10_, e10, hf⟩ := bx hf
        refine r_irem C e10 dX9_sizes_87 ?_
        obtain ⟨u11, e11, hf⟩ := bx hf
        refine r_callVi (ws' := (dO G ad u11.2 dw ++ [])) (As := [.int v10_]) (rest := []) C hw hl.1 kX9_good ml_X9_222 (c_X9_good l G ad _ d_ad1 dw v10_ u11 e11) (CutX.take dO_f CutX.none) _ (gx_h dO_o) rfl ⟨rfl, rfl⟩ ⟨Nat.le_of_ble_eq_true rfl, Nat.le_of_ble_eq_true rfl⟩ rfl ⟨Nat.zero_le _, Nat.zero_le _⟩ rfl (Nat.le_of_ble_eq_true rfl) dX9_sizes_88 (fun H locs hw => ?_)
        exact fin_i C hw (Option.some.inj hf) (fun o => o.1) (fun o => (dO G ad o.2 dw ++ [])) rfl rfl dX9_sizes_91
      replace hf := ifn hf h2_
      rcases Decidable.em (x2 = 3) with hc | h3_
      · replace hf := ifp hf hc
        refine lv_tableIn (tgt := 92) C.1 C.2.1 dX9_sizes_29 (by rw [hc]; decide) (by rw [hc]; decide) (by rw [hc]; rfl) (by decide) ?_
        refine r_aload0 C hl 0 rfl dX9_sizes_92 ?_
        refine r_aload0 C hl 0 rfl dX9_sizes_93 ?_
        refine r_iload0 C hl 1 rfl dX9_sizes_94 ?_
        obtain ⟨u7, e7, hf⟩ := bx hf
        refine r_callVi (ws' := (dO G ad d_ad1 dw ++ [])) (As := [.int x1]) (rest := [.ref (ad 99)]) C hw hl.1 kX9_zonesOf ml_X9_298 (c_X9_zonesOf l G ad _ d_ad1 dw x1 u7 e7) (CutX.take dO_f CutX.none) _ (gx_h dO_o) rfl ⟨rfl, rfl⟩ ⟨Nat.le_of_ble_eq_true rfl, Nat.le_of_ble_eq_true rfl⟩ rfl ⟨Nat.zero_le _, Nat.zero_le _⟩ rfl (Nat.le_of_ble_eq_true rfl) dX9_sizes_95 (fun H locs hw => ?_)
        obtain ⟨u8, e8, hf⟩ := bx hf
        refine r_callVi (ws' := (dO G ad u8.2 dw ++ [])) (As := [.int u7]) (rest := []) C hw hl.1 kX9_good ml_X9_222 (c_X9_good l G ad _ d_ad1 dw u7 u8 e8) (CutX.take dO_f CutX.none) _ (gx_h dO_o) rfl ⟨rfl, rfl⟩ ⟨Nat.le_of_ble_eq_true rfl, Nat.le_of_ble_eq_true rfl⟩ rfl ⟨Nat.zero_le _, Nat.zero_le _⟩ rfl (Nat.le_of_ble_eq_true rfl) dX9_sizes_98 (fun H locs hw => ?_)
        exact fin_i C hw (Option.some.inj hf) (fun o => o.1) (fun o => (dO G ad o.2 dw ++ [])) rfl rfl dX9_sizes_101
      replace hf := ifn hf h3_
      refine lv_tableOut (tgt := 102) C.1 C.2.1 dX9_sizes_29 (sw_out4 h0_ h1_ h2_ h3_) (by decide) ?_
      refine r_aload0 C hl 0 rfl dX9_sizes_102 ?_
      refine r_aload0 C hl 0 rfl dX9_sizes_103 ?_
      refine r_iload0 C hl 1 rfl dX9_sizes_104 ?_
      obtain ⟨u5, e5, hf⟩ := bx hf
      refine r_callVi (ws' := (dO G ad d_ad1 dw ++ [])) (As := [.int x1]) (rest := [.ref (ad 99)]) C hw hl.1 kX9_pagesOf ml_X9_301 (c_X9_pagesOf l G ad _ d_ad1 dw x1 u5 e5) (CutX.take dO_f CutX.none) _ (gx_h dO_o) rfl ⟨rfl, rfl⟩ ⟨Nat.le_of_ble_eq_true rfl, Nat.le_of_ble_eq_true rfl⟩ rfl ⟨Nat.zero_le _, Nat.zero_le _⟩ rfl (Nat.le_of_ble_eq_true rfl) dX9_sizes_105 (fun H locs hw => ?_)
      obtain ⟨u6, e6, hf⟩ := bx hf
      refine r_callVi (ws' := (dO G ad u6.2 dw ++ [])) (As := [.int u5]) (rest := []) C hw hl.1 kX9_good ml_X9_222 (c_X9_good l G ad _ d_ad1 dw u5 u6 e6) (CutX.take dO_f CutX.none) _ (gx_h dO_o) rfl ⟨rfl, rfl⟩ ⟨Nat.le_of_ble_eq_true rfl, Nat.le_of_ble_eq_true rfl⟩ rfl ⟨Nat.zero_le _, Nat.zero_le _⟩ rfl (Nat.le_of_ble_eq_true rfl) dX9_sizes_108 (fun H locs hw => ?_)
      exact fin_i C hw (Option.some.inj hf) (fun o => o.1) (fun o => (dO G ad o.2 dw ++ [])) rfl rfl dX9_sizes_111
    · replace hf := ifp hf hc
      exact hB_22  d_ad1 hf _ _ hw _ (lv_sub hl [0] rfl)
