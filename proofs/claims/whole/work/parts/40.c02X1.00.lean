set_option maxHeartbeats 4000000 in
set_option maxRecDepth 100000 in
theorem c_X1_isWordSize (l : Launch) (G : GG)  (sz : Nat)  (x0 : Int32) (out : Int32) (hf : f_X1_isWordSize x0 = some out) : Met l yX1_isWordSize (.code yX1_isWordSize cX1_isWordSize 1 (some .boolean) :: BT) ({ frames := 0, cells := 0, slots := 0, locals := 0 }) (va_Pc [.int x0] (PreW G sz [])) (Ans G out (va_A [] sz) []) 0 0 (va_A [] sz) := by
  refine Met.into (by decide) (Nat.le_of_ble_eq_true rfl) ?_
  intro p e s m below meth c C hsz ls hl hw
  have hl : lv_has ls 1 [(0, .int x0)] := hl
  clear hsz
  generalize va_A [] sz = A at hw ⊢
  unfold f_X1_isWordSize at hf
  refine r_iload0 C hl 0 rfl dX1_isWordSize_0 ?_
  refine lv_iconst (v := 2) C.1 C.2.1 dX1_isWordSize_1 (by decide) ?_
  refine lv_icmp_ne (tgt := 9) C.1 C.2.1 dX1_isWordSize_2 (by decide) (fun hc => ?_) (fun hc => ?_)
  · replace hf := ifn hf hc
    refine lv_iconst (v := 0) C.1 C.2.1 dX1_isWordSize_9 (by decide) ?_
    exact fin_z C hw (by decide) (Option.some.inj hf) (fun o => o) (fun o => []) rfl rfl dX1_isWordSize_10
  · replace hf := ifp hf hc
    refine lv_iconst (v := 1) C.1 C.2.1 dX1_isWordSize_5 (by decide) ?_
    refine lv_goto (tgt := 10) C.1 C.2.1 dX1_isWordSize_6 (by decide) ?_
    exact fin_z C hw (by decide) (Option.some.inj hf) (fun o => o) (fun o => []) rfl rfl dX1_isWordSize_10
set_option maxHeartbeats 4000000 in
set_option maxRecDepth 100000 in
theorem c_X1_leastCost (l : Launch) (G : GG)  (sz : Nat)  (x0 : Int32) (x1 : Int32) (x2 : Int32) (out : Int32) (hf : f_X1_leastCost x0 x1 x2 = some out) : Met l yX1_leastCost (.code yX1_leastCost cX1_leastCost 3 (some .int) :: BT) ({ frames := 0, cells := 0, slots := 0, locals := 0 }) (va_Pc [.int x0, .int x1, .int x2] (PreW G sz [])) (Ans G out (va_A [] sz) []) 0 0 (va_A [] sz) := by
  refine Met.into (by decide) (Nat.le_of_ble_eq_true rfl) ?_
  intro p e s m below meth c C hsz ls hl hw
  have hl : lv_has ls 3 [(0, .int x0), (1, .int x1), (2, .int x2)] := hl
  clear hsz
  generalize va_A [] sz = A at hw ⊢
  have hB_24 : b_X1_leastCost_24 x0 x1 x2  = some out → ∀ (H : Heap) (locs : List Loc), Wd G A s H locs [] → ∀ ls : Array Slot, lv_has ls 3 [(0, .int x0)] → W p l e ({ frames := 0, cells := 0, slots := 0, locals := 0 }) s m [.int x0, .int x1, .int x2].toArray below meth c H locs 0 0 (MQ below (Ans G out A []) [.int x0, .int x1, .int x2].toArray s 0 0 A) (F0 m 24 ls []) := by
    intro hf H locs hw ls hl
    unfold b_X1_leastCost_24 at hf
    refine r_iload0 C hl 0 rfl dX1_leastCost_24 ?_
    refine lv_bipush (v := 8) C.1 C.2.1 dX1_leastCost_25 (by decide) ?_
    refine lv_icmp_gt (tgt := 36) C.1 C.2.1 dX1_leastCost_27 (by decide) (fun hc => ?_) (fun hc => ?_)
    · replace hf := ifp hf hc
      refine lv_bipush (v := 99) C.1 C.2.1 dX1_leastCost_36 (by decide) ?_
      exact fin_i C hw (Option.some.inj hf) (fun o => o) (fun o => []) rfl rfl dX1_leastCost_38
    · replace hf := ifn hf hc
      refine r_iload0 C hl 0 rfl dX1_leastCost_30 ?_
      refine lv_iconst (v := 1) C.1 C.2.1 dX1_leastCost_31 (by decide) ?_
      refine lv_iadd C.1 C.2.1 dX1_leastCost_32 ?_
      refine lv_goto (tgt := 38) C.1 C.2.1 dX1_leastCost_33 (by decide) ?_
      exact fin_i C hw (Option.some.inj hf) (fun o => o) (fun o => []) rfl rfl dX1_leastCost_38
  have hB_12 : b_X1_leastCost_12 x0 x1 x2  = some out → ∀ (H : Heap) (locs : List Loc), Wd G A s H locs [] → ∀ ls : Array Slot, lv_has ls 3 [(0, .int x0), (2, .int x2)] → W p l e ({ frames := 0, cells := 0, slots := 0, locals := 0 }) s m [.int x0, .int x1, .int x2].toArray below meth c H locs 0 0 (MQ below (Ans G out A []) [.int x0, .int x1, .int x2].toArray s 0 0 A) (F0 m 12 ls []) := by
    intro hf H locs hw ls hl
    unfold b_X1_leastCost_12 at hf
    refine r_iload0 C hl 0 rfl dX1_leastCost_12 ?_
    refine lv_iconst (v := 2) C.1 C.2.1 dX1_leastCost_13 (by decide) ?_
    refine lv_icmp_lt (tgt := 24) C.1 C.2.1 dX1_leastCost_14 (by decide) (fun hc => ?_) (fun hc => ?_)
    · replace hf := ifp hf hc
      exact hB_24   hf _ _ hw _ (lv_sub hl [0] rfl)
    · replace hf := ifn hf hc
      refine r_iload0 C hl 0 rfl dX1_leastCost_17 ?_
      refine r_iload0 C hl 1 rfl dX1_leastCost_18 ?_
      refine lv_icmp_gt (tgt := 24) C.1 C.2.1 dX1_leastCost_19 (by decide) (fun hc => ?_) (fun hc => ?_)
      · replace hf := ifp hf hc
        exact hB_24   hf _ _ hw _ (lv_sub hl [0] rfl)
      · replace hf := ifn hf hc
        refine lv_iconst (v := 3) C.1 C.2.1 dX1_leastCost_22 (by decide) ?_
        exact fin_i C hw (Option.some.inj hf) (fun o => o) (fun o => []) rfl rfl dX1_leastCost_23
  unfold f_X1_leastCost at hf
  refine r_iload0 C hl 0 rfl dX1_leastCost_0 ?_
  refine lv_iconst (v := 2) C.1 C.2.1 dX1_leastCost_1 (by decide) ?_
  refine lv_icmp_lt (tgt := 12) C.1 C.2.1 dX1_leastCost_2 (by decide) (fun hc => ?_) (fun hc => ?_)
  · replace hf := ifp hf hc
    exact hB_12   hf _ _ hw _ (lv_sub hl [0, 2] rfl)
  · replace hf := ifn hf hc
    refine r_iload0 C hl 0 rfl dX1_leastCost_5 ?_
    refine r_iload0 C hl 1 rfl dX1_leastCost_6 ?_
    refine lv_icmp_gt (tgt := 12) C.1 C.2.1 dX1_leastCost_7 (by decide) (fun hc => ?_) (fun hc => ?_)
    · replace hf := ifp hf hc
      exact hB_12   hf _ _ hw _ (lv_sub hl [0, 2] rfl)
    · replace hf := ifn hf hc
      refine lv_iconst (v := 2) C.1 C.2.1 dX1_leastCost_10 (by decide) ?_
      exact fin_i C hw (Option.some.inj hf) (fun o => o) (fun o => []) rfl rfl dX1_leastCost_11
set_option maxHeartbeats 4000000 in
set_option maxRecDepth 100000 in
theorem c_X1_addPiece (l : Launch) (G : GG) (ad : Nat → Nat) (sz : Nat) (c_ad : Pic) (x1 : Int32) (x2 : Int32) (x3 : Int32) (x4 : Int32) (out : Pic) (hf : f_X1_addPiece c_ad x1 x2 x3 x4 = some out) : Met l yX1_addPiece (.code yX1_addPiece cX1_addPiece 5 none :: BT) ({ frames := 0, cells := 0, slots := 0, locals := 0 }) (va_Pc [.ref (ad 99), .int x1, .int x2, .int x3, .int x4] (PreW G sz (cO G ad c_ad ++ []))) (Don G (va_A (cO G ad c_ad ++ []) sz) (cO G ad out ++ [])) 0 0 (va_A (cO G ad c_ad ++ []) sz) := by
  refine Met.into (by decide) (Nat.le_of_ble_eq_true rfl) ?_
  intro p e s m below meth c C hsz ls hl hw
  have hl : lv_has ls 5 [(0, .ref (ad 99)), (1, .int x1), (2, .int x2), (3, .int x3), (4, .int x4)] := hl
  clear hsz
  generalize va_A (cO G ad c_ad ++ []) sz = A at hw ⊢
  unfold f_X1_addPiece at hf
  refine r_aload0 C hl 0 rfl dX1_addPiece_0 ?_
  refine r_get C hw _ (gx_h cO_o) 7 fl_X1_43 rfl dX1_addPiece_1 ?_
  refine lv_bipush (v := 16) C.1 C.2.1 dX1_addPiece_4 (by decide) ?_
  refine lv_icmp_ge (tgt := 60) C.1 C.2.1 dX1_addPiece_6 (by decide) (fun hc => ?_) (fun hc => ?_)
  · replace hf := ifp hf hc
    exact fin_v C hw (Option.some.inj hf) (fun o => (cO G ad o ++ [])) rfl dX1_addPiece_60
  · replace hf := ifn hf hc
    refine r_aload0 C hl 0 rfl dX1_addPiece_9 ?_
    refine r_get C hw _ (gx_h cO_o) 3 fl_X1_21 rfl dX1_addPiece_10 ?_
    refine r_aload0 C hl 0 rfl dX1_addPiece_13 ?_
    refine r_get C hw _ (gx_h cO_o) 7 fl_X1_43 rfl dX1_addPiece_14 ?_
    refine r_iload0 C hl 1 rfl dX1_addPiece_17 ?_
    obtain ⟨c_ad1, e1, hf⟩ := bx hf
    refine r_iast C hw _ (gx_h cO_g3) e1 (cO G ad c_ad1 ++ []) (fun h => (sx_h cO_g3 (cO_s3 h))) dX1_addPiece_18 (fun H locs hw => ?_)
    refine r_aload0 C hl 0 rfl dX1_addPiece_19 ?_
    refine r_get C hw _ (gx_h cO_o) 4 fl_X1_24 rfl dX1_addPiece_20 ?_
    refine r_aload0 C hl 0 rfl dX1_addPiece_23 ?_
    refine r_get C hw _ (gx_h cO_o) 7 fl_X1_43 rfl dX1_addPiece_24 ?_
    refine r_iload0 C hl 2 rfl dX1_addPiece_27 ?_
    obtain ⟨c_ad2, e2, hf⟩ := bx hf
    refine r_iast C hw _ (gx_h cO_g4) e2 (cO G ad c_ad2 ++ []) (fun h => (sx_h cO_g4 (cO_s4 h))) dX1_addPiece_28 (fun H locs hw => ?_)
    refine r_aload0 C hl 0 rfl dX1_addPiece_29 ?_
    refine r_get C hw _ (gx_h cO_o) 5 fl_X1_27 rfl dX1_addPiece_30 ?_
    refine r_aload0 C hl 0 rfl dX1_addPiece_33 ?_
    refine r_get C hw _ (gx_h cO_o) 7 fl_X1_43 rfl dX1_addPiece_34 ?_
    refine r_iload0 C hl 3 rfl dX1_addPiece_37 ?_
    obtain ⟨c_ad3, e3, hf⟩ := bx hf
    refine r_iast C hw _ (gx_h cO_g5) e3 (cO G ad c_ad3 ++ []) (fun h => (sx_h cO_g5 (cO_s5 h))) dX1_addPiece_38 (fun H locs hw => ?_)
    refine r_aload0 C hl 0 rfl dX1_addPiece_39 ?_
    refine r_get C hw _ (gx_h cO_o) 6 fl_X1_30 rfl dX1_addPiece_40 ?_
    refine r_aload0 C hl 0 rfl dX1_addPiece_43 ?_
    refine r_get C hw _ (gx_h cO_o) 7 fl_X1_43 rfl dX1_addPiece_44 ?_
    refine r_iload C hl 4 rfl dX1_addPiece_47 ?_
    obtain ⟨c_ad4, e4, hf⟩ := bx hf
    refine r_iast C hw _ (gx_h cO_g6) e4 (cO G ad c_ad4 ++ []) (fun h => (sx_h cO_g6 (cO_s6 h))) dX1_addPiece_49 (fun H locs hw => ?_)
    refine r_aload0 C hl 0 rfl dX1_addPiece_50 ?_
    refine lv_dup C.1 C.2.1 dX1_addPiece_51 rfl ?_
    refine r_get C hw _ (gx_h cO_o) 7 fl_X1_43 rfl dX1_addPiece_52 ?_
    refine lv_iconst (v := 1) C.1 C.2.1 dX1_addPiece_55 (by decide) ?_
    refine lv_iadd C.1 C.2.1 dX1_addPiece_56 ?_
    obtain ⟨c_ad5, e5, hf⟩ := bx hf
    refine r_put C hw _ (gx_h cO_o) 7 fp_X1_43 rfl rfl (Nat.le_of_ble_eq_true rfl) (cO G ad c_ad5 ++ []) (sx_h cO_o (cO_p7 e5)) dX1_addPiece_57 (fun H locs hw => ?_)
    exact fin_v C hw (Option.some.inj hf) (fun o => (cO G ad o ++ [])) rfl dX1_addPiece_60
set_option maxHeartbeats 4000000 in
set_option maxRecDepth 100000 in
theorem c_X1_longestFit (l : Launch) (G : GG) (ad : Nat → Nat) (sz : Nat) (c_ad : Pic) (x1 : Int32) (x2 : Int32) (x3 : Int32) (out : Int32) (hf : f_X1_longestFit c_ad x1 x2 x3 = some out) : Met l yX1_longestFit (.code yX1_longestFit cX1_longestFit 5 (some .int) :: BT) ({ frames := 1, cells := 0, slots := 0, locals := 21 }) (va_Pc [.ref (ad 99), .int x1, .int x2, .int x3] (PreW G sz (cO G ad c_ad ++ []))) (Ans G out (va_A (cO G ad c_ad ++ []) sz) (cO G ad c_ad ++ [])) 0 0 (va_A (cO G ad c_ad ++ []) sz) := by
  refine Met.into (by decide) (Nat.le_of_ble_eq_true rfl) ?_
  intro p e s m below meth c C hsz ls hl hw
  have hl : lv_has ls 5 [(0, .ref (ad 99)), (1, .int x1), (2, .int x2), (3, .int x3)] := hl
  clear hsz
  generalize va_A (cO G ad c_ad ++ []) sz = A at hw ⊢
  have hB_10 : ∀ (k10 : Int32 → Option (Int32)) (hk10 : ∀ (v4 : Int32), k10 v4 = some out → ∀ (H : Heap) (locs : List Loc), Wd G A s H locs (cO G ad c_ad ++ []) → ∀ ls : Array Slot, lv_has ls 5 [(0, .ref (ad 99)), (1, .int x1), (3, .int x3), (4, .int v4)] → W p l e ({ frames := 1, cells := 0, slots := 0, locals := 21 }) s m [.ref (ad 99), .int x1, .int x2, .int x3].toArray below meth c H locs 0 0 (MQ below (Ans G out A (cO G ad c_ad ++ [])) [.ref (ad 99), .int x1, .int x2, .int x3].toArray s 0 0 A) (F0 m 10 ls [])), ∀ (v4 : Int32), b_X1_longestFit_10 c_ad x1 x2 x3 k10 v4 = some out → ∀ (H : Heap) (locs : List Loc), Wd G A s H locs (cO G ad c_ad ++ []) → ∀ ls : Array Slot, lv_has ls 5 [(0, .ref (ad 99)), (1, .int x1), (3, .int x3), (4, .int v4)] → W p l e ({ frames := 1, cells := 0, slots := 0, locals := 21 }) s m [.ref (ad 99), .int x1, .int x2, .int x3].toArray below meth c H locs 0 0 (MQ below (Ans G out A (cO G ad c_ad ++ [])) [.ref (ad 99), .int x1, .int x2, .int x3].toArray s 0 0 A) (F0 m 10 ls []) := by
    intro k10 hk10 v4 hf H locs hw ls hl
    unfold b_X1_longestFit_10 at hf
    refine r_iload C hl 3 rfl dX1_longestFit_10 ?_
    refine lv_iconst (v := 2) C.1 C.2.1 dX1_longestFit_12 (by decide) ?_
    refine lv_icmp_lt (tgt := 45) C.1 C.2.1 dX1_longestFit_13 (by decide) (fun hc => ?_) (fun hc => ?_)
    · replace hf := ifp hf hc
      refine lv_iconst (v := 0) C.1 C.2.1 dX1_longestFit_45 (by decide) ?_
      exact fin_i C hw (Option.some.inj hf) (fun o => o) (fun o => (cO G ad c_ad ++ [])) rfl rfl dX1_longestFit_46
    · replace hf := ifn hf hc
      refine r_iload0 C hl 2 rfl dX1_longestFit_16 ?_
      refine r_aload0 C hl 0 rfl dX1_longestFit_17 ?_
      refine r_get C hw _ (gx_h cO_o) 1 fl_X1_15 rfl dX1_longestFit_18 ?_
      refine r_iload0 C hl 1 rfl dX1_longestFit_21 ?_
      refine r_iload C hl 3 rfl dX1_longestFit_22 ?_
      refine lv_iadd C.1 C.2.1 dX1_longestFit_24 ?_
      obtain ⟨v2_, e2, hf⟩ := bx hf
      refine r_iald C hw _ (gx_h cO_g1) e2 dX1_longestFit_25 ?_
      refine lv_iadd C.1 C.2.1 dX1_longestFit_26 ?_
      refine r_aload0 C hl 0 rfl dX1_longestFit_27 ?_
      refine r_get C hw _ (gx_h cO_o) 1 fl_X1_15 rfl dX1_longestFit_28 ?_
      refine r_iload0 C hl 1 rfl dX1_longestFit_31 ?_
      obtain ⟨v3_, e3, hf⟩ := bx hf
      refine r_iald C hw _ (gx_h cO_g1) e3 dX1_longestFit_32 ?_
      refine lv_icmp_ne (tgt := 39) C.1 C.2.1 dX1_longestFit_33 (by decide) (fun hc => ?_) (fun hc => ?_)
      · replace hf := ifn hf hc
        refine r_iinc C hl 3 (v4 + (-1)) [(4, .int (v4 + (-1))), (0, .ref (ad 99)), (1, .int x1), (3, .int x3)] rfl (iinc_e (by decide)) (by decide) rfl dX1_longestFit_39 (fun ls hl => ?_)
        refine lv_goto (tgt := 10) C.1 C.2.1 dX1_longestFit_42 (by decide) ?_
        exact hk10 (v4 + (-1)) hf _ _ hw _ (lv_sub hl [1, 2, 3, 0] rfl)
      · replace hf := ifp hf hc
        refine r_iload C hl 3 rfl dX1_longestFit_36 ?_
        exact fin_i C hw (Option.some.inj hf) (fun o => o) (fun o => (cO G ad c_ad ++ [])) rfl rfl dX1_longestFit_38
  have hL_10 : ∀ n : Nat, ∀ (v4 : Int32), L_X1_longestFit_10 c_ad x1 x2 x3  n v4 = some out → ∀ (H : Heap) (locs : List Loc), Wd G A s H locs (cO G ad c_ad ++ []) → ∀ ls : Array Slot, lv_has ls 5 [(0, .ref (ad 99)), (1, .int x1), (3, .int x3), (4, .int v4)] → W p l e ({ frames := 1, cells := 0, slots := 0, locals := 21 }) s m [.ref (ad 99), .int x1, .int x2, .int x3].toArray below meth c H locs 0 0 (MQ below (Ans G out A (cO G ad c_ad ++ [])) [.ref (ad 99), .int x1, .int x2, .int x3].toArray s 0 0 A) (F0 m 10 ls []) := by
    intro  n
    induction n with
    | zero => intro v4 hf; cases hf
    | succ n ih => exact hB_10 _ ih
  unfold f_X1_longestFit at hf
  refine r_iload0 C hl 2 rfl dX1_longestFit_0 ?_
  refine lv_bipush (v := 16) C.1 C.2.1 dX1_longestFit_1 (by decide) ?_
  refine r_iload0 C hl 1 rfl dX1_longestFit_3 ?_
  refine lv_isub C.1 C.2.1 dX1_longestFit_4 ?_
  refine r_min C hl.1 ml_X1_75 (Nat.le_of_ble_eq_true rfl) (Nat.le_of_ble_eq_true rfl) ⟨Nat.zero_le _, Nat.zero_le _⟩ dX1_longestFit_5 ?_
  refine r_istore C hl [(4, .int (if (16 - x1) < x2 then (16 - x1) else x2)), (0, .ref (ad 99)), (1, .int x1), (2, .int x2), (3, .int x3)] (by decide) rfl dX1_longestFit_8 (fun ls hl => ?_)
  exact hL_10  FU (if (16 - x1) < x2 then (16 - x1) else x2) hf _ _ hw _ (lv_sub hl [1, 2, 4, 0] rfl)
set_option maxHeartbeats 4000000 in
set_option maxRecDepth 100000 in
theorem c_X1_longestPlain (l : Launch) (G : GG) (ad : Nat → Nat) (sz : Nat) (c_ad : Pic) (x1 : Int32) (out : Int32) (hf : f_X1_longestPlain c_ad x1 = some out) : Met l yX1_longestPlain (.code yX1_longestPlain cX1_longestPlain 3 (some .int) :: BT) ({ frames := 1, cells := 0, slots := 0, locals := 21 }) (va_Pc [.ref (ad 99), .int x1] (PreW G sz (cO G ad c_ad ++ []))) (Ans G out (va_A (cO G ad c_ad ++ []) sz) (cO G ad c_ad ++ [])) 0 0 (va_A (cO G ad c_ad ++ []) sz) := by
  refine Met.into (by decide) (Nat.le_of_ble_eq_true rfl) ?_
  intro p e s m below meth c C hsz ls hl hw
  have hl : lv_has ls 3 [(0, .ref (ad 99)), (1, .int x1)] := hl
  clear hsz
  generalize va_A (cO G ad c_ad ++ []) sz = A at hw ⊢
  have hB_10 : ∀ (k10 : Int32 → Option (Int32)) (hk10 : ∀ (v2 : Int32), k10 v2 = some out → ∀ (H : Heap) (locs : List Loc), Wd G A s H locs (cO G ad c_ad ++ []) → ∀ ls : Array Slot, lv_has ls 3 [(0, .ref (ad 99)), (1, .int x1), (2, .int v2)] → W p l e ({ frames := 1, cells := 0, slots := 0, locals := 21 }) s m [.ref (ad 99), .int x1].toArray below meth c H locs 0 0 (MQ below (Ans G out A (cO G ad c_ad ++ [])) [.ref (ad 99), .int x1].toArray s 0 0 A) (F0 m 10 ls [])), ∀ (v2 : Int32), b_X1_longestPlain_10 c_ad x1 k10 v2 = some out → ∀ (H : Heap) (locs : List Loc), Wd G A s H locs (cO G ad c_ad ++ []) → ∀ ls : Array Slot, lv_has ls 3 [(0, .ref (ad 99)), (1, .int x1), (2, .int v2)] → W p l e ({ frames := 1, cells := 0, slots := 0, locals := 21 }) s m [.ref (ad 99), .int x1].toArray below meth c H locs 0 0 (MQ below (Ans G out A (cO G ad c_ad ++ [])) [.ref (ad 99), .int x1].toArray s 0 0 A) (F0 m 10 ls []) := by
    intro k10 hk10 v2 hf H locs hw ls hl
    unfold b_X1_longestPlain_10 at hf
    refine r_iload0 C hl 2 rfl dX1_longestPlain_10 ?_
    refine lv_iconst (v := 2) C.1 C.2.1 dX1_longestPlain_11 (by decide) ?_
    refine lv_icmp_lt (tgt := 44) C.1 C.2.1 dX1_longestPlain_12 (by decide) (fun hc => ?_) (fun hc => ?_)
    · replace hf := ifp hf hc
      refine lv_iconst (v := 1) C.1 C.2.1 dX1_longestPlain_44 (by decide) ?_
      exact fin_i C hw (Option.some.inj hf) (fun o => o) (fun o => (cO G ad c_ad ++ [])) rfl rfl dX1_longestPlain_45
    · replace hf := ifn hf hc
      refine r_iload0 C hl 2 rfl dX1_longestPlain_15 ?_
      refine lv_iconst (v := 1) C.1 C.2.1 dX1_longestPlain_16 (by decide) ?_
      refine lv_iadd C.1 C.2.1 dX1_longestPlain_17 ?_
      refine r_aload0 C hl 0 rfl dX1_longestPlain_18 ?_
      refine r_get C hw _ (gx_h cO_o) 1 fl_X1_15 rfl dX1_longestPlain_19 ?_
      refine r_iload0 C hl 1 rfl dX1_longestPlain_22 ?_
      refine r_iload0 C hl 2 rfl dX1_longestPlain_23 ?_
      refine lv_iadd C.1 C.2.1 dX1_longestPlain_24 ?_
      obtain ⟨v2_, e2, hf⟩ := bx hf
      refine r_iald C hw _ (gx_h cO_g1) e2 dX1_longestPlain_25 ?_
      refine lv_iadd C.1 C.2.1 dX1_longestPlain_26 ?_
      refine r_aload0 C hl 0 rfl dX1_longestPlain_27 ?_
      refine r_get C hw _ (gx_h cO_o) 1 fl_X1_15 rfl dX1_longestPlain_28 ?_
      refine r_iload0 C hl 1 rfl dX1_longestPlain_31 ?_
      obtain ⟨v3_, e3, hf⟩ := bx hf
      refine r_iald C hw _ (gx_h cO_g1) e3 dX1_longestPlain_32 ?_
      refine lv_icmp_ne (tgt := 38) C.1 C.2.1 dX1_longestPlain_33 (by decide) (fun hc => ?_) (fun hc => ?_)
      · replace hf := ifn hf hc
        refine r_iinc C hl 2 (v2 + (-1)) [(2, .int (v2 + (-1))), (0, .ref (ad 99)), (1, .int x1)] rfl (iinc_e (by decide)) (by decide) rfl dX1_longestPlain_38 (fun ls hl => ?_)
        refine lv_goto (tgt := 10) C.1 C.2.1 dX1_longestPlain_41 (by decide) ?_
        exact hk10 (v2 + (-1)) hf _ _ hw _ (lv_sub hl [1, 2, 0] rfl)
      · replace hf := ifp hf hc
        refine r_iload0 C hl 2 rfl dX1_longestPlain_36 ?_
        exact fin_i C hw (Option.some.inj hf) (fun o => o) (fun o => (cO G ad c_ad ++ [])) rfl rfl dX1_longestPlain_37
  have hL_10 : ∀ n : Nat, ∀ (v2 : Int32), L_X1_longestPlain_10 c_ad x1  n v2 = some out → ∀ (H : Heap) (locs : List Loc), Wd G A s H locs (cO G ad c_ad ++ []) → ∀ ls : Array Slot, lv_has ls 3 [(0, .ref (ad 99)), (1, .int x1), (2, .int v2)] → W p l e ({ frames := 1, cells := 0, slots := 0, locals := 21 }) s m [.ref (ad 99), .int x1].toArray below meth c H locs 0 0 (MQ below (Ans G out A (cO G ad c_ad ++ [])) [.ref (ad 99), .int x1].toArray s 0 0 A) (F0 m 10 ls []) := by
    intro  n
    induction n with
    | zero => intro v2 hf; cases hf
    | succ n ih => exact hB_10 _ ih
  unfold f_X1_longestPlain at hf
  refine lv_bipush (v := 8) C.1 C.2.1 dX1_longestPlain_0 (by decide) ?_
  refine lv_bipush (v := 16) C.1 C.2.1 dX1_longestPlain_2 (by decide) ?_
  refine r_iload0 C hl 1 rfl dX1_longestPlain_4 ?_
  refine lv_isub C.1 C.2.1 dX1_longestPlain_5 ?_
  refine r_min C hl.1 ml_X1_75 (Nat.le_of_ble_eq_true rfl) (Nat.le_of_ble_eq_true rfl) ⟨Nat.zero_le _, Nat.zero_le _⟩ dX1_longestPlain_6 ?_
  refine r_istore0 C hl [(2, .int (if (16 - x1) < 8 then (16 - x1) else 8)), (0, .ref (ad 99)), (1, .int x1)] (by decide) rfl dX1_longestPlain_9 (fun ls hl => ?_)
  exact hL_10  FU (if (16 - x1) < 8 then (16 - x1) else 8) hf _ _ hw _ (lv_sub hl [1, 2, 0] rfl)
set_option maxHeartbeats 4000000 in
set_option maxRecDepth 100000 in
theorem c_X1_alikeFrom (l : Launch) (G : GG) (ad : Nat → Nat) (sz : Nat) (c_ad : Pic) (x1 : Int32) (out : Int32) (hf : f_X1_alikeFrom c_ad x1 = some out) : Met l yX1_alikeFrom (.code yX1_alikeFrom cX1_alikeFrom 3 (some .int) :: BT) ({ frames := 0, cells := 0, slots := 0, locals := 0 }) (va_Pc [.ref (ad 99), .int x1] (PreW G sz (cO G ad c_ad ++ []))) (Ans G out (va_A (cO G ad c_ad ++ []) sz) (cO G ad c_ad ++ [])) 0 0 (va_A (cO G ad c_ad ++ []) sz) := by
  refine Met.into (by decide) (Nat.le_of_ble_eq_true rfl) ?_
  intro p e s m below meth c C hsz ls hl hw
  have hl : lv_has ls 3 [(0, .ref (ad 99)), (1, .int x1)] := hl
  clear hsz
  generalize va_A (cO G ad c_ad ++ []) sz = A at hw ⊢
  have hB_4 : ∀ (k4 : Int32 → Option (Int32)) (hk4 : ∀ (v2 : Int32), k4 v2 = some out → ∀ (H : Heap) (locs : List Loc), Wd G A s H locs (cO G ad c_ad ++ []) → ∀ ls : Array Slot, lv_has ls 3 [(0, .ref (ad 99)), (1, .int x1), (2, .int v2)] → W p l e ({ frames := 0, cells := 0, slots := 0, locals := 0 }) s m [.ref (ad 99), .int x1].toArray below meth c H locs 0 0 (MQ below (Ans G out A (cO G ad c_ad ++ [])) [.ref (ad 99), .int x1].toArray s 0 0 A) (F0 m 4 ls [])), ∀ (v2 : Int32), b_X1_alikeFrom_4 c_ad x1 k4 v2 = some out → ∀ (H : Heap) (locs : List Loc), Wd G A s H locs (cO G ad c_ad ++ []) → ∀ ls : Array Slot, lv_has ls 3 [(0, .ref (ad 99)), (1, .int x1), (2, .int v2)] → W p l e ({ frames := 0, cells := 0, slots := 0, locals := 0 }) s m [.ref (ad 99), .int x1].toArray below meth c H locs 0 0 (MQ below (Ans G out A (cO G ad c_ad ++ [])) [.ref (ad 99), .int x1].toArray s 0 0 A) (F0 m 4 ls []) := by
    intro k4 hk4 v2 hf H locs hw ls hl
    unfold b_X1_alikeFrom_4 at hf
    refine r_iload0 C hl 2 rfl dX1_alikeFrom_4 ?_
    refine lv_bipush (v := 16) C.1 C.2.1 dX1_alikeFrom_5 (by decide) ?_
    refine lv_icmp_ge (tgt := 31) C.1 C.2.1 dX1_alikeFrom_7 (by decide) (fun hc => ?_) (fun hc => ?_)
    · replace hf := ifp hf hc
      refine r_iload0 C hl 2 rfl dX1_alikeFrom_31 ?_
      refine r_iload0 C hl 1 rfl dX1_alikeFrom_32 ?_
      refine lv_isub C.1 C.2.1 dX1_alikeFrom_33 ?_
      exact fin_i C hw (Option.some.inj hf) (fun o => o) (fun o => (cO G ad c_ad ++ [])) rfl rfl dX1_alikeFrom_34
    · replace hf := ifn hf hc
      refine r_aload0 C hl 0 rfl dX1_alikeFrom_10 ?_
      refine r_get C hw _ (gx_h cO_o) 0 fl_X1_9 rfl dX1_alikeFrom_11 ?_
      refine r_iload0 C hl 2 rfl dX1_alikeFrom_14 ?_
      obtain ⟨v1_, e1, hf⟩ := bx hf
      refine r_iald C hw _ (gx_h cO_g0) e1 dX1_alikeFrom_15 ?_
      refine r_aload0 C hl 0 rfl dX1_alikeFrom_16 ?_
      refine r_get C hw _ (gx_h cO_o) 0 fl_X1_9 rfl dX1_alikeFrom_17 ?_
      refine r_iload0 C hl 1 rfl dX1_alikeFrom_20 ?_
      obtain ⟨v2_, e2, hf⟩ := bx hf
      refine r_iald C hw _ (gx_h cO_g0) e2 dX1_alikeFrom_21 ?_
      refine lv_icmp_ne (tgt := 31) C.1 C.2.1 dX1_alikeFrom_22 (by decide) (fun hc => ?_) (fun hc => ?_)
      · replace hf := ifn hf hc
        refine r_iload0 C hl 2 rfl dX1_alikeFrom_31 ?_
        refine r_iload0 C hl 1 rfl dX1_alikeFrom_32 ?_
        refine lv_isub C.1 C.2.1 dX1_alikeFrom_33 ?_
        exact fin_i C hw (Option.some.inj hf) (fun o => o) (fun o => (cO G ad c_ad ++ [])) rfl rfl dX1_alikeFrom_34
      · replace hf := ifp hf hc
        refine r_iinc C hl 2 (v2 + 1) [(2, .int (v2 + 1)), (0, .ref (ad 99)), (1, .int x1)] rfl (iinc_e (by decide)) (by decide) rfl dX1_alikeFrom_25 (fun ls hl => ?_)
        refine lv_goto (tgt := 4) C.1 C.2.1 dX1_alikeFrom_28 (by decide) ?_
        exact hk4 (v2 + 1) hf _ _ hw _ (lv_sub hl [1, 2, 0] rfl)
  have hL_4 : ∀ n : Nat, ∀ (v2 : Int32), L_X1_alikeFrom_4 c_ad x1  n v2 = some out → ∀ (H : Heap) (locs : List Loc), Wd G A s H locs (cO G ad c_ad ++ []) → ∀ ls : Array Slot, lv_has ls 3 [(0, .ref (ad 99)), (1, .int x1), (2, .int v2)] → W p l e ({ frames := 0, cells := 0, slots := 0, locals := 0 }) s m [.ref (ad 99), .int x1].toArray below meth c H locs 0 0 (MQ below (Ans G out A (cO G ad c_ad ++ [])) [.ref (ad 99), .int x1].toArray s 0 0 A) (F0 m 4 ls []) := by
    intro  n
    induction n with
    | zero => intro v2 hf; cases hf
    | succ n ih => exact hB_4 _ ih
  unfold f_X1_alikeFrom at hf
  refine r_iload0 C hl 1 rfl dX1_alikeFrom_0 ?_
  refine lv_iconst (v := 1) C.1 C.2.1 dX1_alikeFrom_1 (by decide) ?_
  refine lv_iadd C.1 C.2.1 dX1_alikeFrom_2 ?_
  refine r_istore0 C hl [(2, .int (x1 + 1)), (0, .ref (ad 99)), (1, .int x1)] (by decide) rfl dX1_alikeFrom_3 (fun ls hl => ?_)
  exact hL_4  FU (x1 + 1) hf _ _ hw _ (lv_sub hl [1, 2, 0] rfl)
set_option maxHeartbeats 4000000 in
set_option maxRecDepth 100000 in
theorem c_X1_copiedFrom (l : Launch) (G : GG) (ad : Nat → Nat) (sz : Nat) (c_ad : Pic) (x1 : Int32) (x2 : Int32) (out : Int32) (hf : f_X1_copiedFrom c_ad x1 x2 = some out) : Met l yX1_copiedFrom (.code yX1_copiedFrom cX1_copiedFrom 4 (some .int) :: BT) ({ frames := 0, cells := 0, slots := 0, locals := 0 }) (va_Pc [.ref (ad 99), .int x1, .int x2] (PreW G sz (cO G ad c_ad ++ []))) (Ans G out (va_A (cO G ad c_ad ++ []) sz) (cO G ad c_ad ++ [])) 0 0 (va_A (cO G ad c_ad ++ []) sz) := by
  refine Met.into (by decide) (Nat.le_of_ble_eq_true rfl) ?_
  intro p e s m below meth c C hsz ls hl hw
  have hl : lv_has ls 4 [(0, .ref (ad 99)), (1, .int x1), (2, .int x2)] := hl
  clear hsz
  generalize va_A (cO G ad c_ad ++ []) sz = A at hw ⊢
  have hB_2 : ∀ (k2 : Int32 → Option (Int32)) (hk2 : ∀ (v3 : Int32), k2 v3 = some out → ∀ (H : Heap) (locs : List Loc), Wd G A s H locs (cO G ad c_ad ++ []) → ∀ ls : Array Slot, lv_has ls 4 [(0, .ref (ad 99)), (1, .int x1), (2, .int x2), (3, .int v3)] → W p l e ({ frames := 0, cells := 0, slots := 0, locals := 0 }) s m [.ref (ad 99), .int x1, .int x2].toArray below meth c H locs 0 0 (MQ below (Ans G out A (cO G ad c_ad ++ [])) [.ref (ad 99), .int x1, .int x2].toArray s 0 0 A) (F0 m 2 ls [])), ∀ (v3 : Int32), b_X1_copiedFrom_2 c_ad x1 x2 k2 v3 = some out → ∀ (H : Heap) (locs : List Loc), Wd G A s H locs (cO G ad c_ad ++ []) → ∀ ls : Array Slot, lv_has ls 4 [(0, .ref (ad 99)), (1, .int x1), (2, .int x2), (3, .int v3)] → W p l e ({ frames := 0, cells := 0, slots := 0, locals := 0 }) s m [.ref (ad 99), .int x1, .int x2].toArray below meth c H locs 0 0 (MQ below (Ans G out A (cO G ad c_ad ++ [])) [.ref (ad 99), .int x1, .int x2].toArray s 0 0 A) (F0 m 2 ls []) := by
    intro k2 hk2 v3 hf H locs hw ls hl
    unfold b_X1_copiedFrom_2 at hf
    refine r_iload0 C hl 3 rfl dX1_copiedFrom_2 ?_
    refine lv_bipush (v := 8) C.1 C.2.1 dX1_copiedFrom_3 (by decide) ?_
    refine lv_icmp_ge (tgt := 43) C.1 C.2.1 dX1_copiedFrom_5 (by decide) (fun hc => ?_) (fun hc => ?_)
    · replace hf := ifp hf hc
      refine r_iload0 C hl 3 rfl dX1_copiedFrom_43 ?_
      exact fin_i C hw (Option.some.inj hf) (fun o => o) (fun o => (cO G ad c_ad ++ [])) rfl rfl dX1_copiedFrom_44
    · replace hf := ifn hf hc
      refine r_iload0 C hl 1 rfl dX1_copiedFrom_8 ?_
      refine r_iload0 C hl 3 rfl dX1_copiedFrom_9 ?_
      refine lv_iadd C.1 C.2.1 dX1_copiedFrom_10 ?_
      refine lv_bipush (v := 16) C.1 C.2.1 dX1_copiedFrom_11 (by decide) ?_
      refine lv_icmp_ge (tgt := 43) C.1 C.2.1 dX1_copiedFrom_13 (by decide) (fun hc => ?_) (fun hc => ?_)
      · replace hf := ifp hf hc
        refine r_iload0 C hl 3 rfl dX1_copiedFrom_43 ?_
        exact fin_i C hw (Option.some.inj hf) (fun o => o) (fun o => (cO G ad c_ad ++ [])) rfl rfl dX1_copiedFrom_44
      · replace hf := ifn hf hc
        refine r_aload0 C hl 0 rfl dX1_copiedFrom_16 ?_
        refine r_get C hw _ (gx_h cO_o) 0 fl_X1_9 rfl dX1_copiedFrom_17 ?_
        refine r_iload0 C hl 1 rfl dX1_copiedFrom_20 ?_
        refine r_iload0 C hl 3 rfl dX1_copiedFrom_21 ?_
        refine lv_iadd C.1 C.2.1 dX1_copiedFrom_22 ?_
        obtain ⟨v1_, e1, hf⟩ := bx hf
        refine r_iald C hw _ (gx_h cO_g0) e1 dX1_copiedFrom_23 ?_
        refine r_aload0 C hl 0 rfl dX1_copiedFrom_24 ?_
        refine r_get C hw _ (gx_h cO_o) 0 fl_X1_9 rfl dX1_copiedFrom_25 ?_
        refine r_iload0 C hl 1 rfl dX1_copiedFrom_28 ?_
        refine r_iload0 C hl 3 rfl dX1_copiedFrom_29 ?_
        refine lv_iadd C.1 C.2.1 dX1_copiedFrom_30 ?_
        refine r_iload0 C hl 2 rfl dX1_copiedFrom_31 ?_
        refine lv_isub C.1 C.2.1 dX1_copiedFrom_32 ?_
        obtain ⟨v2_, e2, hf⟩ := bx hf
        refine r_iald C hw _ (gx_h cO_g0) e2 dX1_copiedFrom_33 ?_
        refine lv_icmp_ne (tgt := 43) C.1 C.2.1 dX1_copiedFrom_34 (by decide) (fun hc => ?_) (fun hc => ?_)
        · replace hf := ifn hf hc
          refine r_iload0 C hl 3 rfl dX1_copiedFrom_43 ?_
          exact fin_i C hw (Option.some.inj hf) (fun o => o) (fun o => (cO G ad c_ad ++ [])) rfl rfl dX1_copiedFrom_44
        · replace hf := ifp hf hc
          refine r_iinc C hl 3 (v3 + 1) [(3, .int (v3 + 1)), (0, .ref (ad 99)), (1, .int x1), (2, .int x2)] rfl (iinc_e (by decide)) (by decide) rfl dX1_copiedFrom_37 (fun ls hl => ?_)
          refine lv_goto (tgt := 2) C.1 C.2.1 dX1_copiedFrom_40 (by decide) ?_
          exact hk2 (v3 + 1) hf _ _ hw _ (lv_sub hl [1, 2, 3, 0] rfl)
  have hL_2 : ∀ n : Nat, ∀ (v3 : Int32), L_X1_copiedFrom_2 c_ad x1 x2  n v3 = some out → ∀ (H : Heap) (locs : List Loc), Wd G A s H locs (cO G ad c_ad ++ []) → ∀ ls : Array Slot, lv_has ls 4 [(0, .ref (ad 99)), (1, .int x1), (2, .int x2), (3, .int v3)] → W p l e ({ frames := 0, cells := 0, slots := 0, locals := 0 }) s m [.ref (ad 99), .int x1, .int x2].toArray below meth c H locs 0 0 (MQ below (Ans G out A (cO G ad c_ad ++ [])) [.ref (ad 99), .int x1, .int x2].toArray s 0 0 A) (F0 m 2 ls []) := by
    intro  n
    induction n with
    | zero => intro v3 hf; cases hf
    | succ n ih => exact hB_2 _ ih
  unfold f_X1_copiedFrom at hf
  refine lv_iconst (v := 0) C.1 C.2.1 dX1_copiedFrom_0 (by decide) ?_
  refine r_istore0 C hl [(3, .int 0), (0, .ref (ad 99)), (1, .int x1), (2, .int x2)] (by decide) rfl dX1_copiedFrom_1 (fun ls hl => ?_)
  exact hL_2  FU 0 hf _ _ hw _ (lv_sub hl [1, 2, 3, 0] rfl)
set_option maxHeartbeats 4000000 in
set_option maxRecDepth 100000 in
theorem c_X1_longestCopy (l : Launch) (G : GG) (ad : Nat → Nat) (sz : Nat) (c_ad : Pic) (x1 : Int32) (out : Int32) (hf : f_X1_longestCopy c_ad x1 = some out) : Met l yX1_longestCopy (.code yX1_longestCopy cX1_longestCopy 4 (some .int) :: BT) ({ frames := 1, cells := 0, slots := 0, locals := 23 }) (va_Pc [.ref (ad 99), .int x1] (PreW G sz (cO G ad c_ad ++ []))) (Ans G out (va_A (cO G ad c_ad ++ []) sz) (cO G ad c_ad ++ [])) 0 0 (va_A (cO G ad c_ad ++ []) sz) := by
  refine Met.into (by decide) (Nat.le_of_ble_eq_true rfl) ?_
  intro p e s m below meth c C hsz ls hl hw
  have hl : lv_has ls 4 [(0, .ref (ad 99)), (1, .int x1)] := hl
  clear hsz
  generalize va_A (cO G ad c_ad ++ []) sz = A at hw ⊢
  have hB_4 : ∀ (k4 : Int32 → Int32 → Option (Int32)) (hk4 : ∀ (v2 : Int32) (v3 : Int32), k4 v2 v3 = some out → ∀ (H : Heap) (locs : List Loc), Wd G A s H locs (cO G ad c_ad ++ []) → ∀ ls : Array Slot, lv_has ls 4 [(0, .ref (ad 99)), (1, .int x1), (2, .int v2), (3, .int v3)] → W p l e ({ frames := 1, cells := 0, slots := 0, locals := 23 }) s m [.ref (ad 99), .int x1].toArray below meth c H locs 0 0 (MQ below (Ans G out A (cO G ad c_ad ++ [])) [.ref (ad 99), .int x1].toArray s 0 0 A) (F0 m 4 ls [])), ∀ (v2 : Int32) (v3 : Int32), b_X1_longestCopy_4 c_ad x1 k4 v2 v3 = some out → ∀ (H : Heap) (locs : List Loc), Wd G A s H locs (cO G ad c_ad ++ []) → ∀ ls : Array Slot, lv_has ls 4 [(0, .ref (ad 99)), (1, .int x1), (2, .int v2), (3, .int v3)] → W p l e ({ frames := 1, cells := 0, slots := 0, locals := 23 }) s m [.ref (ad 99), .int x1].toArray below meth c H locs 0 0 (MQ below (Ans G out A (cO G ad c_ad ++ [])) [.ref (ad 99), .int x1].toArray s 0 0 A) (F0 m 4 ls []) := by
    intro k4 hk4 v2 v3 hf H locs hw ls hl
    unfold b_X1_longestCopy_4 at hf
    refine r_iload0 C hl 3 rfl dX1_longestCopy_4 ?_
    refine r_iload0 C hl 1 rfl dX1_longestCopy_5 ?_
    refine lv_icmp_gt (tgt := 26) C.1 C.2.1 dX1_longestCopy_6 (by decide) (fun hc => ?_) (fun hc => ?_)
    · replace hf := ifp hf hc
      refine r_iload0 C hl 2 rfl dX1_longestCopy_26 ?_
      exact fin_i C hw (Option.some.inj hf) (fun o => o) (fun o => (cO G ad c_ad ++ [])) rfl rfl dX1_longestCopy_27
    · replace hf := ifn hf hc
      refine r_iload0 C hl 2 rfl dX1_longestCopy_9 ?_
      refine r_aload0 C hl 0 rfl dX1_longestCopy_10 ?_
      refine r_iload0 C hl 1 rfl dX1_longestCopy_11 ?_
      refine r_iload0 C hl 3 rfl dX1_longestCopy_12 ?_
      obtain ⟨u1, e1, hf⟩ := bx hf
      refine r_callVi (ws' := (cO G ad c_ad ++ [])) (As := [.int x1, .int v3]) (rest := [.int v2]) C hw hl.1 kX1_copiedFrom ml_X1_80 (c_X1_copiedFrom l G ad _ c_ad x1 v3 u1 e1) (CutX.take cO_f CutX.none) _ (gx_h cO_o) rfl ⟨rfl, rfl⟩ ⟨Nat.le_of_ble_eq_true rfl, Nat.le_of_ble_eq_true rfl⟩ rfl ⟨Nat.zero_le _, Nat.zero_le _⟩ rfl (Nat.le_of_ble_eq_true rfl) dX1_longestCopy_13 (fun H locs hw => ?_)
      refine r_max C hl.1 ml_X1_83 (Nat.le_of_ble_eq_true rfl) (Nat.le_of_ble_eq_true rfl) ⟨Nat.zero_le _, Nat.zero_le _⟩ dX1_longestCopy_16 ?_
      refine r_istore0 C hl [(2, .int (if v2 < u1 then u1 else v2)), (0, .ref (ad 99)), (1, .int x1), (3, .int v3)] (by decide) rfl dX1_longestCopy_19 (fun ls hl => ?_)
      refine r_iinc C hl 3 (v3 + 1) [(3, .int (v3 + 1)), (2, .int (if v2 < u1 then u1 else v2)), (0, .ref (ad 99)), (1, .int x1)] rfl (iinc_e (by decide)) (by decide) rfl dX1_longestCopy_20 (fun ls hl => ?_)
      refine lv_goto (tgt := 4) C.1 C.2.1 dX1_longestCopy_23 (by decide) ?_
      exact hk4 (if v2 < u1 then u1 else v2) (v3 + 1) hf _ _ hw _ (lv_sub hl [2, 3, 1, 0] rfl)
  have hL_4 : ∀ n : Nat, ∀ (v2 : Int32) (v3 : Int32), L_X1_longestCopy_4 c_ad x1  n v2 v3 = some out → ∀ (H : Heap) (locs : List Loc), Wd G A s H locs (cO G ad c_ad ++ []) → ∀ ls : Array Slot, lv_has ls 4 [(0, .ref (ad 99)), (1, .int x1), (2, .int v2), (3, .int v3)] → W p l e ({ frames := 1, cells := 0, slots := 0, locals := 23 }) s m [.ref (ad 99), .int x1].toArray below meth c H locs 0 0 (MQ below (Ans G out A (cO G ad c_ad ++ [])) [.ref (ad 99), .int x1].toArray s 0 0 A) (F0 m 4 ls []) := by
    intro  n
    induction n with
    | zero => intro v2 v3 hf; cases hf
    | succ n ih => exact hB_4 _ ih
  unfold f_X1_longestCopy at hf
  refine lv_iconst (v := 0) C.1 C.2.1 dX1_longestCopy_0 (by decide) ?_
  refine r_istore0 C hl [(2, .int 0), (0, .ref (ad 99)), (1, .int x1)] (by decide) rfl dX1_longestCopy_1 (fun ls hl => ?_)
  refine lv_iconst (v := 2) C.1 C.2.1 dX1_longestCopy_2 (by decide) ?_
  refine r_istore0 C hl [(3, .int 2), (2, .int 0), (0, .ref (ad 99)), (1, .int x1)] (by decide) rfl dX1_longestCopy_3 (fun ls hl => ?_)
  exact hL_4  FU 0 2 hf _ _ hw _ (lv_sub hl [2, 3, 1, 0] rfl)
set_option maxHeartbeats 4000000 in
set_option maxRecDepth 100000 in
theorem c_X1_leastDistance (l : Launch) (G : GG) (ad : Nat → Nat) (sz : Nat) (c_ad : Pic) (x1 : Int32) (x2 : Int32) (out : Int32) (hf : f_X1_leastDistance c_ad x1 x2 = some out) : Met l yX1_leastDistance (.code yX1_leastDistance cX1_leastDistance 4 (some .int) :: BT) ({ frames := 1, cells := 0, slots := 0, locals := 23 }) (va_Pc [.ref (ad 99), .int x1, .int x2] (PreW G sz (cO G ad c_ad ++ []))) (Ans G out (va_A (cO G ad c_ad ++ []) sz) (cO G ad c_ad ++ [])) 0 0 (va_A (cO G ad c_ad ++ []) sz) := by
  refine Met.into (by decide) (Nat.le_of_ble_eq_true rfl) ?_
  intro p e s m below meth c C hsz ls hl hw
  have hl : lv_has ls 4 [(0, .ref (ad 99)), (1, .int x1), (2, .int x2)] := hl
  clear hsz
  generalize va_A (cO G ad c_ad ++ []) sz = A at hw ⊢
  have hB_2 : ∀ (k2 : Int32 → Option (Int32)) (hk2 : ∀ (v3 : Int32), k2 v3 = some out → ∀ (H : Heap) (locs : List Loc), Wd G A s H locs (cO G ad c_ad ++ []) → ∀ ls : Array Slot, lv_has ls 4 [(0, .ref (ad 99)), (1, .int x1), (2, .int x2), (3, .int v3)] → W p l e ({ frames := 1, cells := 0, slots := 0, locals := 23 }) s m [.ref (ad 99), .int x1, .int x2].toArray below meth c H locs 0 0 (MQ below (Ans G out A (cO G ad c_ad ++ [])) [.ref (ad 99), .int x1, .int x2].toArray s 0 0 A) (F0 m 2 ls [])), ∀ (v3 : Int32), b_X1_leastDistance_2 c_ad x1 x2 k2 v3 = some out → ∀ (H : Heap) (locs : List Loc), Wd G A s H locs (cO G ad c_ad ++ []) → ∀ ls : Array Slot, lv_has ls 4 [(0, .ref (ad 99)), (1, .int x1), (2, .int x2), (3, .int v3)] → W p l e ({ frames := 1, cells := 0, slots := 0, locals := 23 }) s m [.ref (ad 99), .int x1, .int x2].toArray below meth c H locs 0 0 (MQ below (Ans G out A (cO G ad c_ad ++ [])) [.ref (ad 99), .int x1, .int x2].toArray s 0 0 A) (F0 m 2 ls []) := by
    intro k2 hk2 v3 hf H locs hw ls hl
    unfold b_X1_leastDistance_2 at hf
    refine r_iload0 C hl 3 rfl dX1_leastDistance_2 ?_
    refine r_iload0 C hl 1 rfl dX1_leastDistance_3 ?_
    refine lv_icmp_gt (tgt := 25) C.1 C.2.1 dX1_leastDistance_4 (by decide) (fun hc => ?_) (fun hc => ?_)
    · replace hf := ifp hf hc
      refine lv_iconst (v := 0) C.1 C.2.1 dX1_leastDistance_25 (by decide) ?_
      exact fin_i C hw (Option.some.inj hf) (fun o => o) (fun o => (cO G ad c_ad ++ [])) rfl rfl dX1_leastDistance_26
    · replace hf := ifn hf hc
      refine r_aload0 C hl 0 rfl dX1_leastDistance_7 ?_
      refine r_iload0 C hl 1 rfl dX1_leastDistance_8 ?_
      refine r_iload0 C hl 3 rfl dX1_leastDistance_9 ?_
      obtain ⟨u1, e1, hf⟩ := bx hf
      refine r_callVi (ws' := (cO G ad c_ad ++ [])) (As := [.int x1, .int v3]) (rest := []) C hw hl.1 kX1_copiedFrom ml_X1_80 (c_X1_copiedFrom l G ad _ c_ad x1 v3 u1 e1) (CutX.take cO_f CutX.none) _ (gx_h cO_o) rfl ⟨rfl, rfl⟩ ⟨Nat.le_of_ble_eq_true rfl, Nat.le_of_ble_eq_true rfl⟩ rfl ⟨Nat.zero_le _, Nat.zero_le _⟩ rfl (Nat.le_of_ble_eq_true rfl) dX1_leastDistance_10 (fun H locs hw => ?_)
      refine r_iload0 C hl 2 rfl dX1_leastDistance_13 ?_
      refine lv_icmp_lt (tgt := 19) C.1 C.2.1 dX1_leastDistance_14 (by decide) (fun hc => ?_) (fun hc => ?_)
      · replace hf := ifp hf hc
        refine r_iinc C hl 3 (v3 + 1) [(3, .int (v3 + 1)), (0, .ref (ad 99)), (1, .int x1), (2, .int x2)] rfl (iinc_e (by decide)) (by decide) rfl dX1_leastDistance_19 (fun ls hl => ?_)
        refine lv_goto (tgt := 2) C.1 C.2.1 dX1_leastDistance_22 (by decide) ?_
        exact hk2 (v3 + 1) hf _ _ hw _ (lv_sub hl [1, 2, 3, 0] rfl)
      · replace hf := ifn hf hc
        refine r_iload0 C hl 3 rfl dX1_leastDistance_17 ?_
        exact fin_i C hw (Option.some.inj hf) (fun o => o) (fun o => (cO G ad c_ad ++ [])) rfl rfl dX1_leastDistance_18
  have hL_2 : ∀ n : Nat, ∀ (v3 : Int32), L_X1_leastDistance_2 c_ad x1 x2  n v3 = some out → ∀ (H : Heap) (locs : List Loc), Wd G A s H locs (cO G ad c_ad ++ []) → ∀ ls : Array Slot, lv_has ls 4 [(0, .ref (ad 99)), (1, .int x1), (2, .int x2), (3, .int v3)] → W p l e ({ frames := 1, cells := 0, slots := 0, locals := 23 }) s m [.ref (ad 99), .int x1, .int x2].toArray below meth c H locs 0 0 (MQ below (Ans G out A (cO G ad c_ad ++ [])) [.ref (ad 99), .int x1, .int x2].toArray s 0 0 A) (F0 m 2 ls []) := by
    intro  n
    induction n with
    | zero => intro v3 hf; cases hf
    | succ n ih => exact hB_2 _ ih
  unfold f_X1_leastDistance at hf
  refine lv_iconst (v := 2) C.1 C.2.1 dX1_leastDistance_0 (by decide) ?_
  refine r_istore0 C hl [(3, .int 2), (0, .ref (ad 99)), (1, .int x1), (2, .int x2)] (by decide) rfl dX1_leastDistance_1 (fun ls hl => ?_)
  exact hL_2  FU 2 hf _ _ hw _ (lv_sub hl [1, 2, 3, 0] rfl)
set_option maxHeartbeats 4000000 in
set_option maxRecDepth 100000 in
theorem c_X1_measureFrom (l : Launch) (G : GG) (ad : Nat → Nat) (sz : Nat) (c_ad : Pic) (x1 : Int32) (out : Pic) (hf : f_X1_measureFrom c_ad x1 = some out) : Met l yX1_measureFrom (.code yX1_measureFrom cX1_measureFrom 7 none :: BT) ({ frames := 2, cells := 0, slots := 0, locals := 46 }) (va_Pc [.ref (ad 99), .int x1] (PreW G sz (cO G ad c_ad ++ []))) (Don G (va_A (cO G ad c_ad ++ []) sz) (cO G ad out ++ [])) 0 0 (va_A (cO G ad c_ad ++ []) sz) := by
  refine Met.into (by decide) (Nat.le_of_ble_eq_true rfl) ?_
  intro p e s m below meth c C hsz ls hl hw
  have hl : lv_has ls 7 [(0, .ref (ad 99)), (1, .int x1)] := hl
  clear hsz
  generalize va_A (cO G ad c_ad ++ []) sz = A at hw ⊢
  have hB_105 : ∀ (k31 : Pic → Int32 → Int32 → Int32 → Option (Pic)) (hk31 : ∀ (c_ad : Pic) (v2 : Int32) (v3 : Int32) (v4 : Int32), k31 c_ad v2 v3 v4 = some out → ∀ (H : Heap) (locs : List Loc), Wd G A s H locs (cO G ad c_ad ++ []) → ∀ ls : Array Slot, lv_has ls 7 [(0, .ref (ad 99)), (1, .int x1), (2, .int v2), (3, .int v3), (4, .int v4)] → W p l e ({ frames := 2, cells := 0, slots := 0, locals := 46 }) s m [.ref (ad 99), .int x1].toArray below meth c H locs 0 0 (MQ below (Don G A (cO G ad out ++ [])) [.ref (ad 99), .int x1].toArray s 0 0 A) (F0 m 31 ls [])), ∀ (c_ad : Pic) (v2 : Int32) (v3 : Int32) (v4 : Int32) (v5 : Int32) (v6 : Int32), b_X1_measureFrom_105 x1 k31 c_ad v2 v3 v4 v5 v6 = some out → ∀ (H : Heap) (locs : List Loc), Wd G A s H locs (cO G ad c_ad ++ []) → ∀ ls : Array Slot, lv_has ls 7 [(0, .ref (ad 99)), (1, .int x1), (2, .int v2), (3, .int v3), (4, .int v4), (5, .int v5), (6, .int v6)] → W p l e ({ frames := 2, cells := 0, slots := 0, locals := 46 }) s m [.ref (ad 99), .int x1].toArray below meth c H locs 0 0 (MQ below (Don G A (cO G ad out ++ [])) [.ref (ad 99), .int x1].toArray s 0 0 A) (F0 m 105 ls []) := by
    intro k31 hk31 c_ad v2 v3 v4 v5 v6 hf H locs hw ls hl
    unfold b_X1_measureFrom_105 at hf
    refine r_aload0 C hl 0 rfl dX1_measureFrom_105 ?_
    refine r_get C hw _ (gx_h cO_o) 1 fl_X1_15 rfl dX1_measureFrom_106 ?_
    refine r_iload0 C hl 1 rfl dX1_measureFrom_109 ?_
    refine r_iload C hl 5 rfl dX1_measureFrom_110 ?_
    obtain ⟨c_ad9, e9, hf⟩ := bx hf
    refine r_iast C hw _ (gx_h cO_g1) e9 (cO G ad c_ad9 ++ []) (fun h => (sx_h cO_g1 (cO_s1 h))) dX1_measureFrom_112 (fun H locs hw => ?_)
    refine r_aload0 C hl 0 rfl dX1_measureFrom_113 ?_
    refine r_get C hw _ (gx_h cO_o) 2 fl_X1_18 rfl dX1_measureFrom_114 ?_
    refine r_iload0 C hl 1 rfl dX1_measureFrom_117 ?_
    refine r_iload C hl 6 rfl dX1_measureFrom_118 ?_
    obtain ⟨c_ad10, e10, hf⟩ := bx hf
    refine r_iast C hw _ (gx_h cO_g2) e10 (cO G ad c_ad10 ++ []) (fun h => (sx_h cO_g2 (cO_s2 h))) dX1_measureFrom_120 (fun H locs hw => ?_)
    refine r_iinc C hl 4 (v4 + 1) [(4, .int (v4 + 1)), (0, .ref (ad 99)), (1, .int x1), (2, .int v2), (3, .int v3), (5, .int v5), (6, .int v6)] rfl (iinc_e (by decide)) (by decide) rfl dX1_measureFrom_121 (fun ls hl => ?_)
    refine lv_goto (tgt := 31) C.1 C.2.1 dX1_measureFrom_124 (by decide) ?_
    exact hk31 c_ad10 v2 v3 (v4 + 1) hf _ _ hw _ (lv_sub hl [1, 2, 3, 4, 0] rfl)
  have hB_31 : ∀ (k31 : Pic → Int32 → Int32 → Int32 → Option (Pic)) (hk31 : ∀ (c_ad : Pic) (v2 : Int32) (v3 : Int32) (v4 : Int32), k31 c_ad v2 v3 v4 = some out → ∀ (H : Heap) (locs : List Loc), Wd G A s H locs (cO G ad c_ad ++ []) → ∀ ls : Array Slot, lv_has ls 7 [(0, .ref (ad 99)), (1, .int x1), (2, .int v2), (3, .int v3), (4, .int v4)] → W p l e ({ frames := 2, cells := 0, slots := 0, locals := 46 }) s m [.ref (ad 99), .int x1].toArray below meth c H locs 0 0 (MQ below (Don G A (cO G ad out ++ [])) [.ref (ad 99), .int x1].toArray s 0 0 A) (F0 m 31 ls [])), ∀ (c_ad : Pic) (v2 : Int32) (v3 : Int32) (v4 : Int32), b_X1_measureFrom_31 x1 k31 c_ad v2 v3 v4 = some out → ∀ (H : Heap) (locs : List Loc), Wd G A s H locs (cO G ad c_ad ++ []) → ∀ ls : Array Slot, lv_has ls 7 [(0, .ref (ad 99)), (1, .int x1), (2, .int v2), (3, .int v3), (4, .int v4)] → W p l e ({ frames := 2, cells := 0, slots := 0, locals := 46 }) s m [.ref (ad 99), .int x1].toArray below meth c H locs 0 0 (MQ below (Don G A (cO G ad out ++ [])) [.ref (ad 99), .int x1].toArray s 0 0 A) (F0 m 31 ls []) := by
    intro k31 hk31 c_ad v2 v3 v4 hf H locs hw ls hl
    unfold b_X1_measureFrom_31 at hf
    refine r_iload0 C hl 1 rfl dX1_measureFrom_31 ?_
    refine r_iload C hl 4 rfl dX1_measureFrom_32 ?_
    refine lv_iadd C.1 C.2.1 dX1_measureFrom_34 ?_
    refine lv_bipush (v := 16) C.1 C.2.1 dX1_measureFrom_35 (by decide) ?_
    refine lv_icmp_gt (tgt := 127) C.1 C.2.1 dX1_measureFrom_37 (by decide) (fun hc => ?_) (fun hc => ?_)
    · replace hf := ifp hf hc
      exact fin_v C hw (Option.some.inj hf) (fun o => (cO G ad o ++ [])) rfl dX1_measureFrom_127
    · replace hf := ifn hf hc
      refine r_iload C hl 4 rfl dX1_measureFrom_40 ?_
      refine r_iload0 C hl 2 rfl dX1_measureFrom_42 ?_
      refine r_iload0 C hl 3 rfl dX1_measureFrom_43 ?_
      obtain ⟨u5, e5, hf⟩ := bx hf
      refine r_callSi (ws' := (cO G ad c_ad ++ [])) (As := [.int v4, .int v2, .int v3]) (rest := []) C hw hl.1 kX1_leastCost ml_X1_57 (c_X1_leastCost l G _ v4 v2 v3 u5 e5) CutX.none ⟨rfl, rfl⟩ ⟨Nat.le_of_ble_eq_true rfl, Nat.le_of_ble_eq_true rfl⟩ rfl ⟨Nat.zero_le _, Nat.zero_le _⟩ rfl (Nat.le_of_ble_eq_true rfl) dX1_measureFrom_44 (fun H locs hw => ?_)
      refine r_aload0 C hl 0 rfl dX1_measureFrom_47 ?_
      refine r_get C hw _ (gx_h cO_o) 1 fl_X1_15 rfl dX1_measureFrom_48 ?_
      refine r_iload0 C hl 1 rfl dX1_measureFrom_51 ?_
      refine r_iload C hl 4 rfl dX1_measureFrom_52 ?_
      refine lv_iadd C.1 C.2.1 dX1_measureFrom_54 ?_
      obtain ⟨v6_, e6, hf⟩ := bx hf
      refine r_iald C hw _ (gx_h cO_g1) e6 dX1_measureFrom_55 ?_
      refine lv_iadd C.1 C.2.1 dX1_measureFrom_56 ?_
      refine r_istore C hl [(5, .int (u5 + v6_)), (0, .ref (ad 99)), (1, .int x1), (2, .int v2), (3, .int v3), (4, .int v4)] (by decide) rfl dX1_measureFrom_57 (fun ls hl => ?_)
      refine lv_iconst (v := 1) C.1 C.2.1 dX1_measureFrom_59 (by decide) ?_
      refine r_aload0 C hl 1 rfl dX1_measureFrom_60 ?_
      refine r_get C hw _ (gx_h cO_o) 2 fl_X1_18 rfl dX1_measureFrom_61 ?_
      refine r_iload0 C hl 2 rfl dX1_measureFrom_64 ?_
      refine r_iload C hl 5 rfl dX1_measureFrom_65 ?_
      refine lv_iadd C.1 C.2.1 dX1_measureFrom_67 ?_
      obtain ⟨v7_, e7, hf⟩ := bx hf
      refine r_iald C hw _ (gx_h cO_g2) e7 dX1_measureFrom_68 ?_
      refine lv_iadd C.1 C.2.1 dX1_measureFrom_69 ?_
      refine r_istore C hl [(6, .int (1 + v7_)), (5, .int (u5 + v6_)), (0, .ref (ad 99)), (1, .int x1), (2, .int v2), (3, .int v3), (4, .int v4)] (by decide) rfl dX1_measureFrom_70 (fun ls hl => ?_)
      refine r_iload C hl 1 rfl dX1_measureFrom_72 ?_
      refine r_aload0 C hl 2 rfl dX1_measureFrom_74 ?_
      refine r_get C hw _ (gx_h cO_o) 1 fl_X1_15 rfl dX1_measureFrom_75 ?_
      refine r_iload0 C hl 3 rfl dX1_measureFrom_78 ?_
      obtain ⟨v8_, e8, hf⟩ := bx hf
      refine r_iald C hw _ (gx_h cO_g1) e8 dX1_measureFrom_79 ?_
      refine lv_icmp_lt (tgt := 105) C.1 C.2.1 dX1_measureFrom_80 (by decide) (fun hc => ?_) (fun hc => ?_)
      · replace hf := ifp hf hc
        exact hB_105 k31 hk31 c_ad v2 v3 v4 (u5 + v6_) (1 + v7_) hf _ _ hw _ (lv_sub hl [2, 3, 4, 5, 6, 1, 0] rfl)
      · replace hf := ifn hf hc
        refine r_iload C hl 1 rfl dX1_measureFrom_83 ?_
        refine r_aload0 C hl 2 rfl dX1_measureFrom_85 ?_
        refine r_get C hw _ (gx_h cO_o) 1 fl_X1_15 rfl dX1_measureFrom_86 ?_
        refine r_iload0 C hl 3 rfl dX1_measureFrom_89 ?_
        obtain ⟨v11_, e11, hf⟩ := bx hf
        refine r_iald C hw _ (gx_h cO_g1) e11 dX1_measureFrom_90 ?_
        refine lv_icmp_ne (tgt := 121) C.1 C.2.1 dX1_measureFrom_91 (by decide) (fun hc => ?_) (fun hc => ?_)
        · replace hf := ifn hf hc
          refine r_iinc C hl 6 (v4 + 1) [(4, .int (v4 + 1)), (6, .int (1 + v7_)), (5, .int (u5 + v6_)), (0, .ref (ad 99)), (1, .int x1), (2, .int v2), (3, .int v3)] rfl (iinc_e (by decide)) (by decide) rfl dX1_measureFrom_121 (fun ls hl => ?_)
          refine lv_goto (tgt := 31) C.1 C.2.1 dX1_measureFrom_124 (by decide) ?_
          exact hk31 c_ad v2 v3 (v4 + 1) hf _ _ hw _ (lv_sub hl [3, 4, 5, 6, 0] rfl)
        · replace hf := ifp hf hc
          refine r_iload C hl 0 rfl dX1_measureFrom_94 ?_
          refine r_aload0 C hl 2 rfl dX1_measureFrom_96 ?_
          refine r_get C hw _ (gx_h cO_o) 2 fl_X1_18 rfl dX1_measureFrom_97 ?_
          refine r_iload0 C hl 3 rfl dX1_measureFrom_100 ?_
          obtain ⟨v12_, e12, hf⟩ := bx hf
          refine r_iald C hw _ (gx_h cO_g2) e12 dX1_measureFrom_101 ?_
          refine lv_icmp_ge (tgt := 121) C.1 C.2.1 dX1_measureFrom_102 (by decide) (fun hc => ?_) (fun hc => ?_)
          · replace hf := ifp hf hc
            refine r_iinc C hl 6 (v4 + 1) [(4, .int (v4 + 1)), (6, .int (1 + v7_)), (5, .int (u5 + v6_)), (0, .ref (ad 99)), (1, .int x1), (2, .int v2), (3, .int v3)] rfl (iinc_e (by decide)) (by decide) rfl dX1_measureFrom_121 (fun ls hl => ?_)
            refine lv_goto (tgt := 31) C.1 C.2.1 dX1_measureFrom_124 (by decide) ?_
            exact hk31 c_ad v2 v3 (v4 + 1) hf _ _ hw _ (lv_sub hl [3, 4, 5, 6, 0] rfl)
          · replace hf := ifn hf hc
            exact hB_105 k31 hk31 c_ad v2 v3 v4 (u5 + v6_) (1 + v7_) hf _ _ hw _ (lv_sub hl [2, 3, 4, 5, 6, 1, 0] rfl)
  have hL_31 : ∀ n : Nat, ∀ (c_ad : Pic) (v2 : Int32) (v3 : Int32) (v4 : Int32), L_X1_measureFrom_31 x1  n c_ad v2 v3 v4 = some out → ∀ (H : Heap) (locs : List Loc), Wd G A s H locs (cO G ad c_ad ++ []) → ∀ ls : Array Slot, lv_has ls 7 [(0, .ref (ad 99)), (1, .int x1), (2, .int v2), (3, .int v3), (4, .int v4)] → W p l e ({ frames := 2, cells := 0, slots := 0, locals := 46 }) s m [.ref (ad 99), .int x1].toArray below meth c H locs 0 0 (MQ below (Don G A (cO G ad out ++ [])) [.ref (ad 99), .int x1].toArray s 0 0 A) (F0 m 31 ls []) := by
    intro  n
    induction n with
    | zero => intro c_ad v2 v3 v4 hf; cases hf
    | succ n ih => exact hB_31 _ ih
  unfold f_X1_measureFrom at hf
  refine r_aload0 C hl 0 rfl dX1_measureFrom_0 ?_
  refine r_iload0 C hl 1 rfl dX1_measureFrom_1 ?_
  obtain ⟨u1, e1, hf⟩ := bx hf
  refine r_callVi (ws' := (cO G ad c_ad ++ [])) (As := [.int x1]) (rest := []) C hw hl.1 kX1_alikeFrom ml_X1_50 (c_X1_alikeFrom l G ad _ c_ad x1 u1 e1) (CutX.take cO_f CutX.none) _ (gx_h cO_o) rfl ⟨rfl, rfl⟩ ⟨Nat.le_of_ble_eq_true rfl, Nat.le_of_ble_eq_true rfl⟩ rfl ⟨Nat.zero_le _, Nat.zero_le _⟩ rfl (Nat.le_of_ble_eq_true rfl) dX1_measureFrom_2 (fun H locs hw => ?_)
  refine r_istore0 C hl [(2, .int u1), (0, .ref (ad 99)), (1, .int x1)] (by decide) rfl dX1_measureFrom_5 (fun ls hl => ?_)
  refine r_aload0 C hl 1 rfl dX1_measureFrom_6 ?_
  refine r_iload0 C hl 2 rfl dX1_measureFrom_7 ?_
  obtain ⟨u2, e2, hf⟩ := bx hf
  refine r_callVi (ws' := (cO G ad c_ad ++ [])) (As := [.int x1]) (rest := []) C hw hl.1 kX1_longestCopy ml_X1_54 (c_X1_longestCopy l G ad _ c_ad x1 u2 e2) (CutX.take cO_f CutX.none) _ (gx_h cO_o) rfl ⟨rfl, rfl⟩ ⟨Nat.le_of_ble_eq_true rfl, Nat.le_of_ble_eq_true rfl⟩ rfl ⟨Nat.zero_le _, Nat.zero_le _⟩ rfl (Nat.le_of_ble_eq_true rfl) dX1_measureFrom_8 (fun H locs hw => ?_)
  refine r_istore0 C hl [(3, .int u2), (2, .int u1), (0, .ref (ad 99)), (1, .int x1)] (by decide) rfl dX1_measureFrom_11 (fun ls hl => ?_)
  refine r_aload0 C hl 2 rfl dX1_measureFrom_12 ?_
  refine r_get C hw _ (gx_h cO_o) 1 fl_X1_15 rfl dX1_measureFrom_13 ?_
  refine r_iload0 C hl 3 rfl dX1_measureFrom_16 ?_
  refine lv_bipush (v := 99) C.1 C.2.1 dX1_measureFrom_17 (by decide) ?_
  obtain ⟨c_ad3, e3, hf⟩ := bx hf
  refine r_iast C hw _ (gx_h cO_g1) e3 (cO G ad c_ad3 ++ []) (fun h => (sx_h cO_g1 (cO_s1 h))) dX1_measureFrom_19 (fun H locs hw => ?_)
  refine r_aload0 C hl 2 rfl dX1_measureFrom_20 ?_
  refine r_get C hw _ (gx_h cO_o) 2 fl_X1_18 rfl dX1_measureFrom_21 ?_
  refine r_iload0 C hl 3 rfl dX1_measureFrom_24 ?_
  refine lv_bipush (v := 16) C.1 C.2.1 dX1_measureFrom_25 (by decide) ?_
  obtain ⟨c_ad4, e4, hf⟩ := bx hf
  refine r_iast C hw _ (gx_h cO_g2) e4 (cO G ad c_ad4 ++ []) (fun h => (sx_h cO_g2 (cO_s2 h))) dX1_measureFrom_27 (fun H locs hw => ?_)
  refine lv_iconst (v := 1) C.1 C.2.1 dX1_measureFrom_28 (by decide) ?_
  refine r_istore C hl [(4, .int 1), (3, .int u2), (2, .int u1), (0, .ref (ad 99)), (1, .int x1)] (by decide) rfl dX1_measureFrom_29 (fun ls hl => ?_)
  exact hL_31  FU c_ad4 u1 u2 1 hf _ _ hw _ (lv_sub hl [3, 4, 2, 1, 0] rfl)
set_option maxHeartbeats 4000000 in
set_option maxRecDepth 100000 in
theorem c_X1_choosePiece (l : Launch) (G : GG) (ad : Nat → Nat) (sz : Nat) (c_ad : Pic) (x1 : Int32) (out : Pic) (hf : f_X1_choosePiece c_ad x1 = some out) : Met l yX1_choosePiece (.code yX1_choosePiece cX1_choosePiece 3 none :: BT) ({ frames := 2, cells := 0, slots := 0, locals := 46 }) (va_Pc [.ref (ad 99), .int x1] (PreW G sz (cO G ad c_ad ++ []))) (Don G (va_A (cO G ad c_ad ++ []) sz) (cO G ad out ++ [])) 0 0 (va_A (cO G ad c_ad ++ []) sz) := by
  refine Met.into (by decide) (Nat.le_of_ble_eq_true rfl) ?_
  intro p e s m below meth c C hsz ls hl hw
  have hl : lv_has ls 3 [(0, .ref (ad 99)), (1, .int x1)] := hl
  clear hsz
  generalize va_A (cO G ad c_ad ++ []) sz = A at hw ⊢
  unfold f_X1_choosePiece at hf
  refine r_aload0 C hl 0 rfl dX1_choosePiece_0 ?_
  refine r_iload0 C hl 1 rfl dX1_choosePiece_1 ?_
  refine r_aload0 C hl 0 rfl dX1_choosePiece_2 ?_
  refine r_iload0 C hl 1 rfl dX1_choosePiece_3 ?_
  obtain ⟨u1, e1, hf⟩ := bx hf
  refine r_callVi (ws' := (cO G ad c_ad ++ [])) (As := [.int x1]) (rest := [.int x1, .ref (ad 99)]) C hw hl.1 kX1_alikeFrom ml_X1_50 (c_X1_alikeFrom l G ad _ c_ad x1 u1 e1) (CutX.take cO_f CutX.none) _ (gx_h cO_o) rfl ⟨rfl, rfl⟩ ⟨Nat.le_of_ble_eq_true rfl, Nat.le_of_ble_eq_true rfl⟩ rfl ⟨Nat.zero_le _, Nat.zero_le _⟩ rfl (Nat.le_of_ble_eq_true rfl) dX1_choosePiece_4 (fun H locs hw => ?_)
  refine lv_iconst (v := 2) C.1 C.2.1 dX1_choosePiece_7 (by decide) ?_
  obtain ⟨u2, e2, hf⟩ := bx hf
  refine r_callVi (ws' := (cO G ad c_ad ++ [])) (As := [.int x1, .int u1, .int 2]) (rest := []) C hw hl.1 kX1_longestFit ml_X1_61 (c_X1_longestFit l G ad _ c_ad x1 u1 2 u2 e2) (CutX.take cO_f CutX.none) _ (gx_h cO_o) rfl ⟨rfl, rfl⟩ ⟨Nat.le_of_ble_eq_true rfl, Nat.le_of_ble_eq_true rfl⟩ rfl ⟨Nat.zero_le _, Nat.zero_le _⟩ rfl (Nat.le_of_ble_eq_true rfl) dX1_choosePiece_8 (fun H locs hw => ?_)
  refine r_istore0 C hl [(2, .int u2), (0, .ref (ad 99)), (1, .int x1)] (by decide) rfl dX1_choosePiece_11 (fun ls hl => ?_)
  refine r_iload0 C hl 0 rfl dX1_choosePiece_12 ?_
  refine lv_if_le (tgt := 25) C.1 C.2.1 dX1_choosePiece_13 (by decide) (fun hc => ?_) (fun hc => ?_)
  · replace hf := ifp hf hc
    refine r_aload0 C hl 1 rfl dX1_choosePiece_25 ?_
    refine r_iload0 C hl 2 rfl dX1_choosePiece_26 ?_
    refine r_aload0 C hl 1 rfl dX1_choosePiece_27 ?_
    refine r_iload0 C hl 2 rfl dX1_choosePiece_28 ?_
    obtain ⟨u3, e3, hf⟩ := bx hf
    refine r_callVi (ws' := (cO G ad c_ad ++ [])) (As := [.int x1]) (rest := [.int x1, .ref (ad 99)]) C hw hl.1 kX1_longestCopy ml_X1_54 (c_X1_longestCopy l G ad _ c_ad x1 u3 e3) (CutX.take cO_f CutX.none) _ (gx_h cO_o) rfl ⟨rfl, rfl⟩ ⟨Nat.le_of_ble_eq_true rfl, Nat.le_of_ble_eq_true rfl⟩ rfl ⟨Nat.zero_le _, Nat.zero_le _⟩ rfl (Nat.le_of_ble_eq_true rfl) dX1_choosePiece_29 (fun H locs hw => ?_)
    refine lv_iconst (v := 3) C.1 C.2.1 dX1_choosePiece_32 (by decide) ?_
    obtain ⟨u4, e4, hf⟩ := bx hf
    refine r_callVi (ws' := (cO G ad c_ad ++ [])) (As := [.int x1, .int u3, .int 3]) (rest := []) C hw hl.1 kX1_longestFit ml_X1_61 (c_X1_longestFit l G ad _ c_ad x1 u3 3 u4 e4) (CutX.take cO_f CutX.none) _ (gx_h cO_o) rfl ⟨rfl, rfl⟩ ⟨Nat.le_of_ble_eq_true rfl, Nat.le_of_ble_eq_true rfl⟩ rfl ⟨Nat.zero_le _, Nat.zero_le _⟩ rfl (Nat.le_of_ble_eq_true rfl) dX1_choosePiece_33 (fun H locs hw => ?_)
    refine r_istore0 C hl [(2, .int u4), (0, .ref (ad 99)), (1, .int x1)] (by decide) rfl dX1_choosePiece_36 (fun ls hl => ?_)
    refine r_iload0 C hl 0 rfl dX1_choosePiece_37 ?_
    refine lv_if_le (tgt := 55) C.1 C.2.1 dX1_choosePiece_38 (by decide) (fun hc => ?_) (fun hc => ?_)
    · replace hf := ifp hf hc
      refine r_aload0 C hl 1 rfl dX1_choosePiece_55 ?_
      refine lv_iconst (v := 2) C.1 C.2.1 dX1_choosePiece_56 (by decide) ?_
      refine r_iload0 C hl 2 rfl dX1_choosePiece_57 ?_
      refine r_aload0 C hl 1 rfl dX1_choosePiece_58 ?_
      refine r_iload0 C hl 2 rfl dX1_choosePiece_59 ?_
      obtain ⟨u5, e5, hf⟩ := bx hf
      refine r_callVi (ws' := (cO G ad c_ad ++ [])) (As := [.int x1]) (rest := [.int x1, .int 2, .ref (ad 99)]) C hw hl.1 kX1_longestPlain ml_X1_72 (c_X1_longestPlain l G ad _ c_ad x1 u5 e5) (CutX.take cO_f CutX.none) _ (gx_h cO_o) rfl ⟨rfl, rfl⟩ ⟨Nat.le_of_ble_eq_true rfl, Nat.le_of_ble_eq_true rfl⟩ rfl ⟨Nat.zero_le _, Nat.zero_le _⟩ rfl (Nat.le_of_ble_eq_true rfl) dX1_choosePiece_60 (fun H locs hw => ?_)
      refine lv_iconst (v := 0) C.1 C.2.1 dX1_choosePiece_63 (by decide) ?_
      obtain ⟨u6, e6, hf⟩ := bx hf
      refine r_callVv (ws' := (cO G ad u6 ++ [])) (As := [.int 2, .int x1, .int u5, .int 0]) (rest := []) C hw hl.1 kX1_addPiece ml_X1_64 (c_X1_addPiece l G ad _ c_ad 2 x1 u5 0 u6 e6) (CutX.take cO_f CutX.none) _ (gx_h cO_o) rfl ⟨rfl, rfl⟩ ⟨Nat.le_of_ble_eq_true rfl, Nat.le_of_ble_eq_true rfl⟩ rfl ⟨Nat.zero_le _, Nat.zero_le _⟩ rfl (Nat.le_of_ble_eq_true rfl) dX1_choosePiece_64 (fun H locs hw => ?_)
      exact fin_v C hw (Option.some.inj hf) (fun o => (cO G ad o ++ [])) rfl dX1_choosePiece_67
    · replace hf := ifn hf hc
      refine r_aload0 C hl 1 rfl dX1_choosePiece_41 ?_
      refine lv_iconst (v := 1) C.1 C.2.1 dX1_choosePiece_42 (by decide) ?_
      refine r_iload0 C hl 2 rfl dX1_choosePiece_43 ?_
      refine r_iload0 C hl 0 rfl dX1_choosePiece_44 ?_
      refine r_aload0 C hl 1 rfl dX1_choosePiece_45 ?_
      refine r_iload0 C hl 2 rfl dX1_choosePiece_46 ?_
      refine r_iload0 C hl 0 rfl dX1_choosePiece_47 ?_
      obtain ⟨u7, e7, hf⟩ := bx hf
      refine r_callVi (ws' := (cO G ad c_ad ++ [])) (As := [.int x1, .int u4]) (rest := [.int u4, .int x1, .int 1, .ref (ad 99)]) C hw hl.1 kX1_leastDistance ml_X1_68 (c_X1_leastDistance l G ad _ c_ad x1 u4 u7 e7) (CutX.take cO_f CutX.none) _ (gx_h cO_o) rfl ⟨rfl, rfl⟩ ⟨Nat.le_of_ble_eq_true rfl, Nat.le_of_ble_eq_true rfl⟩ rfl ⟨Nat.zero_le _, Nat.zero_le _⟩ rfl (Nat.le_of_ble_eq_true rfl) dX1_choosePiece_48 (fun H locs hw => ?_)
      obtain ⟨u8, e8, hf⟩ := bx hf
      refine r_callVv (ws' := (cO G ad u8 ++ [])) (As := [.int 1, .int x1, .int u4, .int u7]) (rest := []) C hw hl.1 kX1_addPiece ml_X1_64 (c_X1_addPiece l G ad _ c_ad 1 x1 u4 u7 u8 e8) (CutX.take cO_f CutX.none) _ (gx_h cO_o) rfl ⟨rfl, rfl⟩ ⟨Nat.le_of_ble_eq_true rfl, Nat.le_of_ble_eq_true rfl⟩ rfl ⟨Nat.zero_le _, Nat.zero_le _⟩ rfl (Nat.le_of_ble_eq_true rfl) dX1_choosePiece_51 (fun H locs hw => ?_)
      exact fin_v C hw (Option.some.inj hf) (fun o => (cO G ad o ++ [])) rfl dX1_choosePiece_54
  · replace hf := ifn hf hc
    refine r_aload0 C hl 1 rfl dX1_choosePiece_16 ?_
    refine lv_iconst (v := 0) C.1 C.2.1 dX1_choosePiece_17 (by decide) ?_
    refine r_iload0 C hl 2 rfl dX1_choosePiece_18 ?_
    refine r_iload0 C hl 0 rfl dX1_choosePiece_19 ?_
    refine lv_iconst (v := 0) C.1 C.2.1 dX1_choosePiece_20 (by decide) ?_
    obtain ⟨u9, e9, hf⟩ := bx hf
    refine r_callVv (ws' := (cO G ad u9 ++ [])) (As := [.int 0, .int x1, .int u2, .int 0]) (rest := []) C hw hl.1 kX1_addPiece ml_X1_64 (c_X1_addPiece l G ad _ c_ad 0 x1 u2 0 u9 e9) (CutX.take cO_f CutX.none) _ (gx_h cO_o) rfl ⟨rfl, rfl⟩ ⟨Nat.le_of_ble_eq_true rfl, Nat.le_of_ble_eq_true rfl⟩ rfl ⟨Nat.zero_le _, Nat.zero_le _⟩ rfl (Nat.le_of_ble_eq_true rfl) dX1_choosePiece_21 (fun H locs hw => ?_)
    exact fin_v C hw (Option.some.inj hf) (fun o => (cO G ad o ++ [])) rfl dX1_choosePiece_24
set_option maxHeartbeats 4000000 in
set_option maxRecDepth 100000 in
theorem c_X1_measure (l : Launch) (G : GG) (ad : Nat → Nat) (ae : Nat → Nat) (sz : Nat) (c_ad : Pic) (e_ae : Pic) (x2 : Int32) (out : Pic) (hf : f_X1_measure c_ad e_ae x2 = some out) : Met l yX1_measure (.code yX1_measure cX1_measure 4 none :: BT) ({ frames := 3, cells := 0, slots := 0, locals := 72 }) (va_Pc [.ref (ad 99), .ref (ae 200), .int x2] (PreW G sz (cO G ad c_ad ++ (eO G ae e_ae ++ [])))) (Don G (va_A (cO G ad c_ad ++ (eO G ae e_ae ++ [])) sz) (cO G ad out ++ (eO G ae e_ae ++ []))) 0 0 (va_A (cO G ad c_ad ++ (eO G ae e_ae ++ [])) sz) := by
  refine Met.into (by decide) (Nat.le_of_ble_eq_true rfl) ?_
  intro p e s m below meth c C hsz ls hl hw
  have hl : lv_has ls 4 [(0, .ref (ad 99)), (1, .ref (ae 200)), (2, .int x2)] := hl
  clear hsz
  generalize va_A (cO G ad c_ad ++ (eO G ae e_ae ++ [])) sz = A at hw ⊢
  have hB_29 : ∀ (k29 : Pic → Int32 → Option (Pic)) (hk29 : ∀ (c_ad : Pic) (v3 : Int32), k29 c_ad v3 = some out → ∀ (H : Heap) (locs : List Loc), Wd G A s H locs (cO G ad c_ad ++ (eO G ae e_ae ++ [])) → ∀ ls : Array Slot, lv_has ls 4 [(0, .ref (ad 99)), (3, .int v3)] → W p l e ({ frames := 3, cells := 0, slots := 0, locals := 72 }) s m [.ref (ad 99), .ref (ae 200), .int x2].toArray below meth c H locs 0 0 (MQ below (Don G A (cO G ad out ++ (eO G ae e_ae ++ []))) [.ref (ad 99), .ref (ae 200), .int x2].toArray s 0 0 A) (F0 m 29 ls [])), ∀ (c_ad : Pic) (v3 : Int32), b_X1_measure_29 e_ae x2 k29 c_ad v3 = some out → ∀ (H : Heap) (locs : List Loc), Wd G A s H locs (cO G ad c_ad ++ (eO G ae e_ae ++ [])) → ∀ ls : Array Slot, lv_has ls 4 [(0, .ref (ad 99)), (3, .int v3)] → W p l e ({ frames := 3, cells := 0, slots := 0, locals := 72 }) s m [.ref (ad 99), .ref (ae 200), .int x2].toArray below meth c H locs 0 0 (MQ below (Don G A (cO G ad out ++ (eO G ae e_ae ++ []))) [.ref (ad 99), .ref (ae 200), .int x2].toArray s 0 0 A) (F0 m 29 ls []) := by
    intro k29 hk29 c_ad v3 hf H locs hw ls hl
    unfold b_X1_measure_29 at hf
    refine r_iload0 C hl 1 rfl dX1_measure_29 ?_
    refine lv_if_lt (tgt := 44) C.1 C.2.1 dX1_measure_30 (by decide) (fun hc => ?_) (fun hc => ?_)
    · replace hf := ifp hf hc
      exact fin_v C hw (Option.some.inj hf) (fun o => (cO G ad o ++ (eO G ae e_ae ++ []))) rfl dX1_measure_44
    · replace hf := ifn hf hc
      refine r_aload0 C hl 0 rfl dX1_measure_33 ?_
      refine r_iload0 C hl 1 rfl dX1_measure_34 ?_
      obtain ⟨u2, e2, hf⟩ := bx hf
      refine r_callVv (ws' := (cO G ad u2 ++ (eO G ae e_ae ++ []))) (As := [.int v3]) (rest := []) C hw hl.1 kX1_measureFrom ml_X1_39 (c_X1_measureFrom l G ad _ c_ad v3 u2 e2) (CutX.take cO_f CutX.none) _ (gx_h cO_o) rfl ⟨rfl, rfl⟩ ⟨Nat.le_of_ble_eq_true rfl, Nat.le_of_ble_eq_true rfl⟩ rfl ⟨Nat.zero_le _, Nat.zero_le _⟩ rfl (Nat.le_of_ble_eq_true rfl) dX1_measure_35 (fun H locs hw => ?_)
      refine r_iinc C hl 1 (v3 + (-1)) [(3, .int (v3 + (-1))), (0, .ref (ad 99))] rfl (iinc_e (by decide)) (by decide) rfl dX1_measure_38 (fun ls hl => ?_)
      refine lv_goto (tgt := 29) C.1 C.2.1 dX1_measure_41 (by decide) ?_
      exact hk29 u2 (v3 + (-1)) hf _ _ hw _ (lv_sub hl [1, 0] rfl)
  have hL_29 : ∀ n : Nat, ∀ (c_ad : Pic) (v3 : Int32), L_X1_measure_29 e_ae x2  n c_ad v3 = some out → ∀ (H : Heap) (locs : List Loc), Wd G A s H locs (cO G ad c_ad ++ (eO G ae e_ae ++ [])) → ∀ ls : Array Slot, lv_has ls 4 [(0, .ref (ad 99)), (3, .int v3)] → W p l e ({ frames := 3, cells := 0, slots := 0, locals := 72 }) s m [.ref (ad 99), .ref (ae 200), .int x2].toArray below meth c H locs 0 0 (MQ below (Don G A (cO G ad out ++ (eO G ae e_ae ++ []))) [.ref (ad 99), .ref (ae 200), .int x2].toArray s 0 0 A) (F0 m 29 ls []) := by
    intro  n
    induction n with
    | zero => intro c_ad v3 hf; cases hf
    | succ n ih => exact hB_29 _ ih
  unfold f_X1_measure at hf
  refine r_iload0 C hl 2 rfl dX1_measure_0 ?_
  refine lv_if_lt (tgt := 13) C.1 C.2.1 dX1_measure_1 (by decide) (fun hc => ?_) (fun hc => ?_)
  · replace hf := ifp hf hc
    exact fin_v C hw (Option.some.inj hf) (fun o => (cO G ad o ++ (eO G ae e_ae ++ []))) rfl dX1_measure_13
  · replace hf := ifn hf hc
    refine r_iload0 C hl 2 rfl dX1_measure_4 ?_
    refine r_aload0 C hl 1 rfl dX1_measure_5 ?_
    refine r_alen C hw _ (gx_t (gx_h eO_g0)) (v := 160) (show Int32.ofNat 160 = 160 from by decide) dX1_measure_6 ?_
    refine lv_bipush (v := 16) C.1 C.2.1 dX1_measure_7 (by decide) ?_
    refine lv_isub C.1 C.2.1 dX1_measure_9 ?_
    refine lv_icmp_le (tgt := 14) C.1 C.2.1 dX1_measure_10 (by decide) (fun hc => ?_) (fun hc => ?_)
    · replace hf := ifp hf hc
      refine r_aload0 C hl 1 rfl dX1_measure_14 ?_
      refine r_iload0 C hl 2 rfl dX1_measure_15 ?_
      refine r_aload0 C hl 0 rfl dX1_measure_16 ?_
      refine r_get C hw _ (gx_h cO_o) 0 fl_X1_9 rfl dX1_measure_17 ?_
      refine lv_iconst (v := 0) C.1 C.2.1 dX1_measure_20 (by decide) ?_
      refine lv_bipush (v := 16) C.1 C.2.1 dX1_measure_21 (by decide) ?_
      obtain ⟨c_ad1, e1, hf⟩ := bx hf
      refine r_copy C hw hl.1 acl_X1_33 _ _ (gx_t (gx_h eO_g0)) (gx_h cO_g0) e1 (cO G ad c_ad1 ++ (eO G ae e_ae ++ [])) (fun h => (sx_h cO_g0 (cO_s0 h))) (Nat.le_of_ble_eq_true rfl) (Nat.le_of_ble_eq_true rfl) dX1_measure_23 (fun H locs hw => ?_)
      refine lv_bipush (v := 15) C.1 C.2.1 dX1_measure_26 (by decide) ?_
      refine r_istore0 C hl [(3, .int 15), (0, .ref (ad 99)), (1, .ref (ae 200)), (2, .int x2)] (by decide) rfl dX1_measure_28 (fun ls hl => ?_)
      exact hL_29  FU c_ad1 15 hf _ _ hw _ (lv_sub hl [1, 0] rfl)
    · replace hf := ifn hf hc
      exact fin_v C hw (Option.some.inj hf) (fun o => (cO G ad o ++ (eO G ae e_ae ++ []))) rfl dX1_measure_13
set_option maxHeartbeats 4000000 in
set_option maxRecDepth 100000 in
theorem c_X1_choosePieces (l : Launch) (G : GG) (ad : Nat → Nat) (sz : Nat) (c_ad : Pic)  (out : Pic) (hf : f_X1_choosePieces c_ad = some out) : Met l yX1_choosePieces (.code yX1_choosePieces cX1_choosePieces 3 none :: BT) ({ frames := 3, cells := 0, slots := 0, locals := 68 }) (va_Pc [.ref (ad 99)] (PreW G sz (cO G ad c_ad ++ []))) (Don G (va_A (cO G ad c_ad ++ []) sz) (cO G ad out ++ [])) 0 0 (va_A (cO G ad c_ad ++ []) sz) := by
  refine Met.into (by decide) (Nat.le_of_ble_eq_true rfl) ?_
  intro p e s m below meth c C hsz ls hl hw
  have hl : lv_has ls 3 [(0, .ref (ad 99))] := hl
  clear hsz
  generalize va_A (cO G ad c_ad ++ []) sz = A at hw ⊢
  have hB_9 : ∀ (k9 : Pic → Int32 → Int32 → Option (Pic)) (hk9 : ∀ (c_ad : Pic) (v1 : Int32) (v2 : Int32), k9 c_ad v1 v2 = some out → ∀ (H : Heap) (locs : List Loc), Wd G A s H locs (cO G ad c_ad ++ []) → ∀ ls : Array Slot, lv_has ls 3 [(0, .ref (ad 99)), (1, .int v1), (2, .int v2)] → W p l e ({ frames := 3, cells := 0, slots := 0, locals := 68 }) s m [.ref (ad 99)].toArray below meth c H locs 0 0 (MQ below (Don G A (cO G ad out ++ [])) [.ref (ad 99)].toArray s 0 0 A) (F0 m 9 ls [])), ∀ (c_ad : Pic) (v1 : Int32) (v2 : Int32), b_X1_choosePieces_9  k9 c_ad v1 v2 = some out → ∀ (H : Heap) (locs : List Loc), Wd G A s H locs (cO G ad c_ad ++ []) → ∀ ls : Array Slot, lv_has ls 3 [(0, .ref (ad 99)), (1, .int v1), (2, .int v2)] → W p l e ({ frames := 3, cells := 0, slots := 0, locals := 68 }) s m [.ref (ad 99)].toArray below meth c H locs 0 0 (MQ below (Don G A (cO G ad out ++ [])) [.ref (ad 99)].toArray s 0 0 A) (F0 m 9 ls []) := by
    intro k9 hk9 c_ad v1 v2 hf H locs hw ls hl
    unfold b_X1_choosePieces_9 at hf
    refine r_iload0 C hl 1 rfl dX1_choosePieces_9 ?_
    refine lv_bipush (v := 16) C.1 C.2.1 dX1_choosePieces_10 (by decide) ?_
    refine lv_icmp_ge (tgt := 41) C.1 C.2.1 dX1_choosePieces_12 (by decide) (fun hc => ?_) (fun hc => ?_)
    · replace hf := ifp hf hc
      exact fin_v C hw (Option.some.inj hf) (fun o => (cO G ad o ++ [])) rfl dX1_choosePieces_41
    · replace hf := ifn hf hc
      refine r_iload0 C hl 2 rfl dX1_choosePieces_15 ?_
      refine lv_bipush (v := 16) C.1 C.2.1 dX1_choosePieces_16 (by decide) ?_
      refine lv_icmp_ge (tgt := 41) C.1 C.2.1 dX1_choosePieces_18 (by decide) (fun hc => ?_) (fun hc => ?_)
      · replace hf := ifp hf hc
        exact fin_v C hw (Option.some.inj hf) (fun o => (cO G ad o ++ [])) rfl dX1_choosePieces_41
      · replace hf := ifn hf hc
        refine r_aload0 C hl 0 rfl dX1_choosePieces_21 ?_
        refine r_iload0 C hl 1 rfl dX1_choosePieces_22 ?_
        obtain ⟨u2, e2, hf⟩ := bx hf
        refine r_callVv (ws' := (cO G ad u2 ++ [])) (As := [.int v1]) (rest := []) C hw hl.1 kX1_choosePiece ml_X1_47 (c_X1_choosePiece l G ad _ c_ad v1 u2 e2) (CutX.take cO_f CutX.none) _ (gx_h cO_o) rfl ⟨rfl, rfl⟩ ⟨Nat.le_of_ble_eq_true rfl, Nat.le_of_ble_eq_true rfl⟩ rfl ⟨Nat.zero_le _, Nat.zero_le _⟩ rfl (Nat.le_of_ble_eq_true rfl) dX1_choosePieces_23 (fun H locs hw => ?_)
        refine r_iload0 C hl 1 rfl dX1_choosePieces_26 ?_
        refine r_aload0 C hl 0 rfl dX1_choosePieces_27 ?_
        refine r_get C hw _ (gx_h cO_o) 5 fl_X1_27 rfl dX1_choosePieces_28 ?_
        refine r_iload0 C hl 2 rfl dX1_choosePieces_31 ?_
        obtain ⟨v3_, e3, hf⟩ := bx hf
        refine r_iald C hw _ (gx_h cO_g5) e3 dX1_choosePieces_32 ?_
        refine lv_iadd C.1 C.2.1 dX1_choosePieces_33 ?_
        refine r_istore0 C hl [(1, .int (v1 + v3_)), (0, .ref (ad 99)), (2, .int v2)] (by decide) rfl dX1_choosePieces_34 (fun ls hl => ?_)
        refine r_iinc C hl 2 (v2 + 1) [(2, .int (v2 + 1)), (1, .int (v1 + v3_)), (0, .ref (ad 99))] rfl (iinc_e (by decide)) (by decide) rfl dX1_choosePieces_35 (fun ls hl => ?_)
        refine lv_goto (tgt := 9) C.1 C.2.1 dX1_choosePieces_38 (by decide) ?_
        exact hk9 u2 (v1 + v3_) (v2 + 1) hf _ _ hw _ (lv_sub hl [2, 1, 0] rfl)
  have hL_9 : ∀ n : Nat, ∀ (c_ad : Pic) (v1 : Int32) (v2 : Int32), L_X1_choosePieces_9   n c_ad v1 v2 = some out → ∀ (H : Heap) (locs : List Loc), Wd G A s H locs (cO G ad c_ad ++ []) → ∀ ls : Array Slot, lv_has ls 3 [(0, .ref (ad 99)), (1, .int v1), (2, .int v2)] → W p l e ({ frames := 3, cells := 0, slots := 0, locals := 68 }) s m [.ref (ad 99)].toArray below meth c H locs 0 0 (MQ below (Don G A (cO G ad out ++ [])) [.ref (ad 99)].toArray s 0 0 A) (F0 m 9 ls []) := by
    intro  n
    induction n with
    | zero => intro c_ad v1 v2 hf; cases hf
    | succ n ih => exact hB_9 _ ih
  unfold f_X1_choosePieces at hf
  refine r_aload0 C hl 0 rfl dX1_choosePieces_0 ?_
  refine lv_iconst (v := 0) C.1 C.2.1 dX1_choosePieces_1 (by decide) ?_
  obtain ⟨c_ad1, e1, hf⟩ := bx hf
  refine r_put C hw _ (gx_h cO_o) 7 fp_X1_43 rfl rfl (Nat.le_of_ble_eq_true rfl) (cO G ad c_ad1 ++ []) (sx_h cO_o (cO_p7 e1)) dX1_choosePieces_2 (fun H locs hw => ?_)
  refine lv_iconst (v := 0) C.1 C.2.1 dX1_choosePieces_5 (by decide) ?_
  refine r_istore0 C hl [(1, .int 0), (0, .ref (ad 99))] (by decide) rfl dX1_choosePieces_6 (fun ls hl => ?_)
  refine lv_iconst (v := 0) C.1 C.2.1 dX1_choosePieces_7 (by decide) ?_
  refine r_istore0 C hl [(2, .int 0), (1, .int 0), (0, .ref (ad 99))] (by decide) rfl dX1_choosePieces_8 (fun ls hl => ?_)
  exact hL_9  FU c_ad1 0 0 hf _ _ hw _ (lv_sub hl [2, 1, 0] rfl)
