set_option maxHeartbeats 4000000 in
set_option maxRecDepth 100000 in
theorem c_X5_clear (l : Launch) (G : GG) (ad : Nat → Nat) (sz : Nat) (s_ad : Pic)  (out : Pic) (hf : f_X5_clear s_ad = some out) : Met l yX5_clear (.code yX5_clear cX5_clear 1 none :: BT) ({ frames := 0, cells := 0, slots := 0, locals := 0 }) (va_Pc [.ref (ad 99)] (PreW G sz (sO G ad s_ad ++ []))) (Don G (va_A (sO G ad s_ad ++ []) sz) (sO G ad out ++ [])) 0 0 (va_A (sO G ad s_ad ++ []) sz) := by
  refine Met.into (by decide) (Nat.le_of_ble_eq_true rfl) ?_
  intro p e s m below meth c C hsz ls hl hw
  have hl : lv_has ls 1 [(0, .ref (ad 99))] := hl
  clear hsz
  generalize va_A (sO G ad s_ad ++ []) sz = A at hw ⊢
  unfold f_X5_clear at hf
  refine r_aload0 C hl 0 rfl dX5_clear_0 ?_
  refine lv_iconst (v := 0) C.1 C.2.1 dX5_clear_1 (by decide) ?_
  obtain ⟨s_ad1, e1, hf⟩ := bx hf
  refine r_put C hw _ (gx_h sO_o) 3 fp_X5_34 rfl rfl (Nat.le_of_ble_eq_true rfl) (sO G ad s_ad1 ++ []) (sx_h sO_o (sO_p3 e1)) dX5_clear_2 (fun H locs hw => ?_)
  refine r_aload0 C hl 0 rfl dX5_clear_5 ?_
  refine lv_iconst (v := 0) C.1 C.2.1 dX5_clear_6 (by decide) ?_
  obtain ⟨s_ad2, e2, hf⟩ := bx hf
  refine r_put C hw _ (gx_h sO_o) 4 fp_X5_37 rfl rfl (Nat.le_of_ble_eq_true rfl) (sO G ad s_ad2 ++ []) (sx_h sO_o (sO_p4 e2)) dX5_clear_7 (fun H locs hw => ?_)
  exact fin_v C hw (Option.some.inj hf) (fun o => (sO G ad o ++ [])) rfl dX5_clear_10
set_option maxHeartbeats 4000000 in
set_option maxRecDepth 100000 in
theorem c_X5_addOp (l : Launch) (G : GG) (ad : Nat → Nat) (sz : Nat) (s_ad : Pic) (x1 : Int32) (x2 : Int32) (x3 : Int32) (out : Pic) (hf : f_X5_addOp s_ad x1 x2 x3 = some out) : Met l yX5_addOp (.code yX5_addOp cX5_addOp 4 none :: BT) ({ frames := 0, cells := 0, slots := 0, locals := 0 }) (va_Pc [.ref (ad 99), .int x1, .int x2, .int x3] (PreW G sz (sO G ad s_ad ++ []))) (Don G (va_A (sO G ad s_ad ++ []) sz) (sO G ad out ++ [])) 0 0 (va_A (sO G ad s_ad ++ []) sz) := by
  refine Met.into (by decide) (Nat.le_of_ble_eq_true rfl) ?_
  intro p e s m below meth c C hsz ls hl hw
  have hl : lv_has ls 4 [(0, .ref (ad 99)), (1, .int x1), (2, .int x2), (3, .int x3)] := hl
  clear hsz
  generalize va_A (sO G ad s_ad ++ []) sz = A at hw ⊢
  unfold f_X5_addOp at hf
  refine r_aload0 C hl 0 rfl dX5_addOp_0 ?_
  refine r_get C hw _ (gx_h sO_o) 4 fl_X5_37 rfl dX5_addOp_1 ?_
  refine lv_bipush (v := 24) C.1 C.2.1 dX5_addOp_4 (by decide) ?_
  refine lv_icmp_ge (tgt := 49) C.1 C.2.1 dX5_addOp_6 (by decide) (fun hc => ?_) (fun hc => ?_)
  · replace hf := ifp hf hc
    exact fin_v C hw (Option.some.inj hf) (fun o => (sO G ad o ++ [])) rfl dX5_addOp_49
  · replace hf := ifn hf hc
    refine r_aload0 C hl 0 rfl dX5_addOp_9 ?_
    refine r_get C hw _ (gx_h sO_o) 6 fl_X5_25 rfl dX5_addOp_10 ?_
    refine r_aload0 C hl 0 rfl dX5_addOp_13 ?_
    refine r_get C hw _ (gx_h sO_o) 4 fl_X5_37 rfl dX5_addOp_14 ?_
    refine r_iload0 C hl 1 rfl dX5_addOp_17 ?_
    obtain ⟨s_ad1, e1, hf⟩ := bx hf
    refine r_iast C hw _ (gx_h sO_g6) e1 (sO G ad s_ad1 ++ []) (fun h => (sx_h sO_g6 (sO_s6 h))) dX5_addOp_18 (fun H locs hw => ?_)
    refine r_aload0 C hl 0 rfl dX5_addOp_19 ?_
    refine r_get C hw _ (gx_h sO_o) 7 fl_X5_28 rfl dX5_addOp_20 ?_
    refine r_aload0 C hl 0 rfl dX5_addOp_23 ?_
    refine r_get C hw _ (gx_h sO_o) 4 fl_X5_37 rfl dX5_addOp_24 ?_
    refine r_iload0 C hl 2 rfl dX5_addOp_27 ?_
    obtain ⟨s_ad2, e2, hf⟩ := bx hf
    refine r_iast C hw _ (gx_h sO_g7) e2 (sO G ad s_ad2 ++ []) (fun h => (sx_h sO_g7 (sO_s7 h))) dX5_addOp_28 (fun H locs hw => ?_)
    refine r_aload0 C hl 0 rfl dX5_addOp_29 ?_
    refine r_get C hw _ (gx_h sO_o) 8 fl_X5_31 rfl dX5_addOp_30 ?_
    refine r_aload0 C hl 0 rfl dX5_addOp_33 ?_
    refine r_get C hw _ (gx_h sO_o) 4 fl_X5_37 rfl dX5_addOp_34 ?_
    refine r_iload0 C hl 3 rfl dX5_addOp_37 ?_
    obtain ⟨s_ad3, e3, hf⟩ := bx hf
    refine r_iast C hw _ (gx_h sO_g8) e3 (sO G ad s_ad3 ++ []) (fun h => (sx_h sO_g8 (sO_s8 h))) dX5_addOp_38 (fun H locs hw => ?_)
    refine r_aload0 C hl 0 rfl dX5_addOp_39 ?_
    refine lv_dup C.1 C.2.1 dX5_addOp_40 rfl ?_
    refine r_get C hw _ (gx_h sO_o) 4 fl_X5_37 rfl dX5_addOp_41 ?_
    refine lv_iconst (v := 1) C.1 C.2.1 dX5_addOp_44 (by decide) ?_
    refine lv_iadd C.1 C.2.1 dX5_addOp_45 ?_
    obtain ⟨s_ad4, e4, hf⟩ := bx hf
    refine r_put C hw _ (gx_h sO_o) 4 fp_X5_37 rfl rfl (Nat.le_of_ble_eq_true rfl) (sO G ad s_ad4 ++ []) (sx_h sO_o (sO_p4 e4)) dX5_addOp_46 (fun H locs hw => ?_)
    exact fin_v C hw (Option.some.inj hf) (fun o => (sO G ad o ++ [])) rfl dX5_addOp_49
set_option maxHeartbeats 4000000 in
set_option maxRecDepth 100000 in
theorem c_X5_addCells (l : Launch) (G : GG) (ad : Nat → Nat) (sz : Nat) (s_ad : Pic) (x1 : Int32) (x2 : Int32) (x3 : Int32) (out : Pic) (hf : f_X5_addCells s_ad x1 x2 x3 = some out) : Met l yX5_addCells (.code yX5_addCells cX5_addCells 6 none :: BT) ({ frames := 1, cells := 0, slots := 0, locals := 21 }) (va_Pc [.ref (ad 99), .int x1, .int x2, .int x3] (PreW G sz (sO G ad s_ad ++ []))) (Don G (va_A (sO G ad s_ad ++ []) sz) (sO G ad out ++ [])) 0 0 (va_A (sO G ad s_ad ++ []) sz) := by
  refine Met.into (by decide) (Nat.le_of_ble_eq_true rfl) ?_
  intro p e s m below meth c C hsz ls hl hw
  have hl : lv_has ls 6 [(0, .ref (ad 99)), (1, .int x1), (2, .int x2), (3, .int x3)] := hl
  clear hsz
  generalize va_A (sO G ad s_ad ++ []) sz = A at hw ⊢
  have hB_13 : ∀ (k13 : Pic → Int32 → Int32 → Option (Pic)) (hk13 : ∀ (s_ad : Pic) (v4 : Int32) (v5 : Int32), k13 s_ad v4 v5 = some out → ∀ (H : Heap) (locs : List Loc), Wd G A s H locs (sO G ad s_ad ++ []) → ∀ ls : Array Slot, lv_has ls 6 [(0, .ref (ad 99)), (1, .int x1), (4, .int v4), (5, .int v5)] → W p l e ({ frames := 1, cells := 0, slots := 0, locals := 21 }) s m [.ref (ad 99), .int x1, .int x2, .int x3].toArray below meth c H locs 0 0 (MQ below (Don G A (sO G ad out ++ [])) [.ref (ad 99), .int x1, .int x2, .int x3].toArray s 0 0 A) (F0 m 13 ls [])), ∀ (s_ad : Pic) (v4 : Int32) (v5 : Int32), b_X5_addCells_13 x1 x2 x3 k13 s_ad v4 v5 = some out → ∀ (H : Heap) (locs : List Loc), Wd G A s H locs (sO G ad s_ad ++ []) → ∀ ls : Array Slot, lv_has ls 6 [(0, .ref (ad 99)), (1, .int x1), (4, .int v4), (5, .int v5)] → W p l e ({ frames := 1, cells := 0, slots := 0, locals := 21 }) s m [.ref (ad 99), .int x1, .int x2, .int x3].toArray below meth c H locs 0 0 (MQ below (Don G A (sO G ad out ++ [])) [.ref (ad 99), .int x1, .int x2, .int x3].toArray s 0 0 A) (F0 m 13 ls []) := by
    intro k13 hk13 s_ad v4 v5 hf H locs hw ls hl
    unfold b_X5_addCells_13 at hf
    refine r_iload C hl 3 rfl dX5_addCells_13 ?_
    refine r_iload C hl 2 rfl dX5_addCells_15 ?_
    refine lv_icmp_ge (tgt := 51) C.1 C.2.1 dX5_addCells_17 (by decide) (fun hc => ?_) (fun hc => ?_)
    · replace hf := ifp hf hc
      exact fin_v C hw (Option.some.inj hf) (fun o => (sO G ad o ++ [])) rfl dX5_addCells_51
    · replace hf := ifn hf hc
      refine r_aload0 C hl 0 rfl dX5_addCells_20 ?_
      refine r_get C hw _ (gx_h sO_o) 3 fl_X5_34 rfl dX5_addCells_21 ?_
      refine lv_bipush (v := 10) C.1 C.2.1 dX5_addCells_24 (by decide) ?_
      refine lv_icmp_ge (tgt := 51) C.1 C.2.1 dX5_addCells_26 (by decide) (fun hc => ?_) (fun hc => ?_)
      · replace hf := ifp hf hc
        exact fin_v C hw (Option.some.inj hf) (fun o => (sO G ad o ++ [])) rfl dX5_addCells_51
      · replace hf := ifn hf hc
        refine r_aload0 C hl 0 rfl dX5_addCells_29 ?_
        refine r_get C hw _ (gx_h sO_o) 5 fl_X5_21 rfl dX5_addCells_30 ?_
        refine r_aload0 C hl 0 rfl dX5_addCells_33 ?_
        refine r_get C hw _ (gx_h sO_o) 3 fl_X5_34 rfl dX5_addCells_34 ?_
        refine lv_bipush (v := 16) C.1 C.2.1 dX5_addCells_37 (by decide) ?_
        refine lv_imul C.1 C.2.1 dX5_addCells_39 ?_
        refine r_iload C hl 3 rfl dX5_addCells_40 ?_
        refine lv_iadd C.1 C.2.1 dX5_addCells_42 ?_
        refine r_iload0 C hl 1 rfl dX5_addCells_43 ?_
        obtain ⟨s_ad2, e2, hf⟩ := bx hf
        refine r_iast C hw _ (gx_h sO_g5) e2 (sO G ad s_ad2 ++ []) (fun h => (sx_h sO_g5 (sO_s5 h))) dX5_addCells_44 (fun H locs hw => ?_)
        refine r_iinc C hl 3 (v5 + 1) [(5, .int (v5 + 1)), (0, .ref (ad 99)), (1, .int x1), (4, .int v4)] rfl (iinc_e (by decide)) (by decide) rfl dX5_addCells_45 (fun ls hl => ?_)
        refine lv_goto (tgt := 13) C.1 C.2.1 dX5_addCells_48 (by decide) ?_
        exact hk13 s_ad2 v4 (v5 + 1) hf _ _ hw _ (lv_sub hl [1, 2, 3, 0] rfl)
  have hL_13 : ∀ n : Nat, ∀ (s_ad : Pic) (v4 : Int32) (v5 : Int32), L_X5_addCells_13 x1 x2 x3  n s_ad v4 v5 = some out → ∀ (H : Heap) (locs : List Loc), Wd G A s H locs (sO G ad s_ad ++ []) → ∀ ls : Array Slot, lv_has ls 6 [(0, .ref (ad 99)), (1, .int x1), (4, .int v4), (5, .int v5)] → W p l e ({ frames := 1, cells := 0, slots := 0, locals := 21 }) s m [.ref (ad 99), .int x1, .int x2, .int x3].toArray below meth c H locs 0 0 (MQ below (Don G A (sO G ad out ++ [])) [.ref (ad 99), .int x1, .int x2, .int x3].toArray s 0 0 A) (F0 m 13 ls []) := by
    intro  n
    induction n with
    | zero => intro s_ad v4 v5 hf; cases hf
    | succ n ih => exact hB_13 _ ih
  unfold f_X5_addCells at hf
  refine lv_bipush (v := 16) C.1 C.2.1 dX5_addCells_0 (by decide) ?_
  refine r_iload0 C hl 2 rfl dX5_addCells_2 ?_
  refine r_iload0 C hl 3 rfl dX5_addCells_3 ?_
  refine lv_iadd C.1 C.2.1 dX5_addCells_4 ?_
  refine r_min C hl.1 ml_X5_40 (Nat.le_of_ble_eq_true rfl) (Nat.le_of_ble_eq_true rfl) ⟨Nat.zero_le _, Nat.zero_le _⟩ dX5_addCells_5 ?_
  refine r_istore C hl [(4, .int (if (x2 + x3) < 16 then (x2 + x3) else 16)), (0, .ref (ad 99)), (1, .int x1), (2, .int x2), (3, .int x3)] (by decide) rfl dX5_addCells_8 (fun ls hl => ?_)
  refine r_iload0 C hl 3 rfl dX5_addCells_10 ?_
  refine r_istore C hl [(5, .int x2), (4, .int (if (x2 + x3) < 16 then (x2 + x3) else 16)), (0, .ref (ad 99)), (1, .int x1), (2, .int x2), (3, .int x3)] (by decide) rfl dX5_addCells_11 (fun ls hl => ?_)
  exact hL_13  FU s_ad (if (x2 + x3) < 16 then (x2 + x3) else 16) x2 hf _ _ hw _ (lv_sub hl [2, 3, 1, 0] rfl)
