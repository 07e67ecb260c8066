set_option maxHeartbeats 4000000 in
set_option maxRecDepth 100000 in
theorem c_X9_onDisk (l : Launch) (G : GG) (ad : Nat → Nat) (sz : Nat) (d_ad : Pic) (dw : Int64) (x1 : Int32) (out : Int32 × Pic) (hf : f_X9_onDisk d_ad x1 = some out) : Met l yX9_onDisk (.code yX9_onDisk cX9_onDisk 4 (some .int) :: BT) ({ frames := 1, cells := 0, slots := 0, locals := 21 }) (va_Pc [.ref (ad 99), .int x1] (PreW G sz (dO G ad d_ad dw ++ []))) (Ans G out.1 (va_A (dO G ad d_ad dw ++ []) sz) (dO G ad out.2 dw ++ [])) 0 0 (va_A (dO G ad d_ad dw ++ []) sz) := by
  refine Met.into (by decide) (Nat.le_of_ble_eq_true rfl) ?_
  intro p e s m below meth c C hsz ls hl hw
  have hl : lv_has ls 4 [(0, .ref (ad 99)), (1, .int x1)] := hl
  clear hsz
  generalize va_A (dO G ad d_ad dw ++ []) sz = A at hw ⊢
  have hB_50 : ∀ (d_ad : Pic), b_X9_onDisk_50 x1  d_ad = some out → ∀ (H : Heap) (locs : List Loc), Wd G A s H locs (dO G ad d_ad dw ++ []) → ∀ ls : Array Slot, lv_has ls 4 [(0, .ref (ad 99))] → W p l e ({ frames := 1, cells := 0, slots := 0, locals := 21 }) s m [.ref (ad 99), .int x1].toArray below meth c H locs 0 0 (MQ below (Ans G out.1 A (dO G ad out.2 dw ++ [])) [.ref (ad 99), .int x1].toArray s 0 0 A) (F0 m 50 ls []) := by
    intro d_ad hf H locs hw ls hl
    unfold b_X9_onDisk_50 at hf
    refine r_aload0 C hl 0 rfl dX9_onDisk_50 ?_
    refine lv_iconst (v := 1) C.1 C.2.1 dX9_onDisk_51 (by decide) ?_
    obtain ⟨d_ad2, e2, hf⟩ := bx hf
    refine r_put C hw _ (gx_h dO_o) 0 fp_X9_75 rfl rfl (Nat.le_of_ble_eq_true rfl) (dO G ad d_ad2 dw ++ []) (sx_h dO_o (dO_p0 e2)) dX9_onDisk_52 (fun H locs hw => ?_)
    refine lv_iconst (v := 0) C.1 C.2.1 dX9_onDisk_55 (by decide) ?_
    exact fin_i C hw (Option.some.inj hf) (fun o => o.1) (fun o => (dO G ad o.2 dw ++ [])) rfl rfl dX9_onDisk_56
  have hB_9 : ∀ (k9 : Pic → Int32 → Int32 → Option (Int32 × Pic)) (hk9 : ∀ (d_ad : Pic) (v2 : Int32) (v3 : Int32), k9 d_ad v2 v3 = some out → ∀ (H : Heap) (locs : List Loc), Wd G A s H locs (dO G ad d_ad dw ++ []) → ∀ ls : Array Slot, lv_has ls 4 [(0, .ref (ad 99)), (1, .int x1), (2, .int v2), (3, .int v3)] → W p l e ({ frames := 1, cells := 0, slots := 0, locals := 21 }) s m [.ref (ad 99), .int x1].toArray below meth c H locs 0 0 (MQ below (Ans G out.1 A (dO G ad out.2 dw ++ [])) [.ref (ad 99), .int x1].toArray s 0 0 A) (F0 m 9 ls [])), ∀ (d_ad : Pic) (v2 : Int32) (v3 : Int32), b_X9_onDisk_9 x1 k9 d_ad v2 v3 = some out → ∀ (H : Heap) (locs : List Loc), Wd G A s H locs (dO G ad d_ad dw ++ []) → ∀ ls : Array Slot, lv_has ls 4 [(0, .ref (ad 99)), (1, .int x1), (2, .int v2), (3, .int v3)] → W p l e ({ frames := 1, cells := 0, slots := 0, locals := 21 }) s m [.ref (ad 99), .int x1].toArray below meth c H locs 0 0 (MQ below (Ans G out.1 A (dO G ad out.2 dw ++ [])) [.ref (ad 99), .int x1].toArray s 0 0 A) (F0 m 9 ls []) := by
    intro k9 hk9 d_ad v2 v3 hf H locs hw ls hl
    unfold b_X9_onDisk_9 at hf
    refine r_aload0 C hl 0 rfl dX9_onDisk_9 ?_
    refine r_get C hw _ (gx_h dO_o) 19 fl_X9_225 rfl dX9_onDisk_10 ?_
    refine lv_if_eq (tgt := 50) C.1 C.2.1 dX9_onDisk_13 (by decide) (fun hc => ?_) (fun hc => ?_)
    · replace hf := ifp hf hc
      exact hB_50  d_ad hf _ _ hw _ (lv_sub hl [0] rfl)
    · replace hf := ifn hf hc
      refine r_iload0 C hl 3 rfl dX9_onDisk_16 ?_
      refine lv_bipush (v := 30) C.1 C.2.1 dX9_onDisk_17 (by decide) ?_
      refine lv_icmp_ge (tgt := 50) C.1 C.2.1 dX9_onDisk_19 (by decide) (fun hc => ?_) (fun hc => ?_)
      · replace hf := ifp hf hc
        exact hB_50  d_ad hf _ _ hw _ (lv_sub hl [0] rfl)
      · replace hf := ifn hf hc
        refine r_aload0 C hl 0 rfl dX9_onDisk_22 ?_
        refine r_iload0 C hl 3 rfl dX9_onDisk_23 ?_
        obtain ⟨u3, e3, hf⟩ := bx hf
        refine r_callVi (ws' := (dO G ad d_ad dw ++ [])) (As := [.int v3]) (rest := []) C hw hl.1 kX9_placeOf ml_X9_325 (c_X9_placeOf l G ad _ d_ad dw v3 u3 e3) (CutX.take dO_f CutX.none) _ (gx_h dO_o) rfl ⟨rfl, rfl⟩ ⟨Nat.le_of_ble_eq_true rfl, Nat.le_of_ble_eq_true rfl⟩ rfl ⟨Nat.zero_le _, Nat.zero_le _⟩ rfl (Nat.le_of_ble_eq_true rfl) dX9_onDisk_24 (fun H locs hw => ?_)
        refine lv_iconst (v := 3) C.1 C.2.1 dX9_onDisk_27 (by decide) ?_
        refine lv_icmp_eq (tgt := 34) C.1 C.2.1 dX9_onDisk_28 (by decide) (fun hc => ?_) (fun hc => ?_)
        · replace hf := ifp hf hc
          refine r_iload0 C hl 2 rfl dX9_onDisk_34 ?_
          refine r_iload0 C hl 1 rfl dX9_onDisk_35 ?_
          refine lv_icmp_ne (tgt := 41) C.1 C.2.1 dX9_onDisk_36 (by decide) (fun hc => ?_) (fun hc => ?_)
          · replace hf := ifn hf hc
            refine r_iinc C hl 2 (v2 + 1) [(2, .int (v2 + 1)), (0, .ref (ad 99)), (1, .int x1), (3, .int v3)] rfl (iinc_e (by decide)) (by decide) rfl dX9_onDisk_41 (fun ls hl => ?_)
            refine r_iinc C hl 3 (v3 + 1) [(3, .int (v3 + 1)), (2, .int (v2 + 1)), (0, .ref (ad 99)), (1, .int x1)] rfl (iinc_e (by decide)) (by decide) rfl dX9_onDisk_44 (fun ls hl => ?_)
            refine lv_goto (tgt := 9) C.1 C.2.1 dX9_onDisk_47 (by decide) ?_
            exact hk9 d_ad (v2 + 1) (v3 + 1) hf _ _ hw _ (lv_sub hl [2, 3, 1, 0] rfl)
          · replace hf := ifp hf hc
            refine r_iload0 C hl 3 rfl dX9_onDisk_39 ?_
            exact fin_i C hw (Option.some.inj hf) (fun o => o.1) (fun o => (dO G ad o.2 dw ++ [])) rfl rfl dX9_onDisk_40
        · replace hf := ifn hf hc
          refine lv_goto (tgt := 44) C.1 C.2.1 dX9_onDisk_31 (by decide) ?_
          refine r_iinc C hl 3 (v3 + 1) [(3, .int (v3 + 1)), (0, .ref (ad 99)), (1, .int x1), (2, .int v2)] rfl (iinc_e (by decide)) (by decide) rfl dX9_onDisk_44 (fun ls hl => ?_)
          refine lv_goto (tgt := 9) C.1 C.2.1 dX9_onDisk_47 (by decide) ?_
          exact hk9 d_ad v2 (v3 + 1) hf _ _ hw _ (lv_sub hl [1, 2, 3, 0] rfl)
  have hL_9 : ∀ n : Nat, ∀ (d_ad : Pic) (v2 : Int32) (v3 : Int32), L_X9_onDisk_9 x1  n d_ad v2 v3 = some out → ∀ (H : Heap) (locs : List Loc), Wd G A s H locs (dO G ad d_ad dw ++ []) → ∀ ls : Array Slot, lv_has ls 4 [(0, .ref (ad 99)), (1, .int x1), (2, .int v2), (3, .int v3)] → W p l e ({ frames := 1, cells := 0, slots := 0, locals := 21 }) s m [.ref (ad 99), .int x1].toArray below meth c H locs 0 0 (MQ below (Ans G out.1 A (dO G ad out.2 dw ++ [])) [.ref (ad 99), .int x1].toArray s 0 0 A) (F0 m 9 ls []) := by
    intro  n
    induction n with
    | zero => intro d_ad v2 v3 hf; cases hf
    | succ n ih => exact hB_9 _ ih
  unfold f_X9_onDisk at hf
  refine r_aload0 C hl 0 rfl dX9_onDisk_0 ?_
  refine lv_iconst (v := 0) C.1 C.2.1 dX9_onDisk_1 (by decide) ?_
  obtain ⟨d_ad1, e1, hf⟩ := bx hf
  refine r_put C hw _ (gx_h dO_o) 0 fp_X9_75 rfl rfl (Nat.le_of_ble_eq_true rfl) (dO G ad d_ad1 dw ++ []) (sx_h dO_o (dO_p0 e1)) dX9_onDisk_2 (fun H locs hw => ?_)
  refine lv_iconst (v := 0) C.1 C.2.1 dX9_onDisk_5 (by decide) ?_
  refine r_istore0 C hl [(2, .int 0), (0, .ref (ad 99)), (1, .int x1)] (by decide) rfl dX9_onDisk_6 (fun ls hl => ?_)
  refine lv_iconst (v := 0) C.1 C.2.1 dX9_onDisk_7 (by decide) ?_
  refine r_istore0 C hl [(3, .int 0), (2, .int 0), (0, .ref (ad 99)), (1, .int x1)] (by decide) rfl dX9_onDisk_8 (fun ls hl => ?_)
  exact hL_9  FU d_ad1 0 0 hf _ _ hw _ (lv_sub hl [2, 3, 1, 0] rfl)
set_option maxHeartbeats 4000000 in
set_option maxRecDepth 100000 in
theorem c_X9_size (l : Launch) (G : GG) (ad : Nat → Nat) (sz : Nat) (d_ad : Pic) (dw : Int64) (x1 : Int32) (out : Int32 × Pic) (hf : f_X9_size d_ad x1 = some out) : Met l yX9_size (.code yX9_size cX9_size 2 (some .int) :: BT) ({ frames := 0, cells := 0, slots := 0, locals := 0 }) (va_Pc [.ref (ad 99), .int x1] (PreW G sz (dO G ad d_ad dw ++ []))) (Ans G out.1 (va_A (dO G ad d_ad dw ++ []) sz) (dO G ad out.2 dw ++ [])) 0 0 (va_A (dO G ad d_ad dw ++ []) sz) := by
  refine Met.into (by decide) (Nat.le_of_ble_eq_true rfl) ?_
  intro p e s m below meth c C hsz ls hl hw
  have hl : lv_has ls 2 [(0, .ref (ad 99)), (1, .int x1)] := hl
  clear hsz
  generalize va_A (dO G ad d_ad dw ++ []) sz = A at hw ⊢
  unfold f_X9_size at hf
  refine r_aload0 C hl 0 rfl dX9_size_0 ?_
  refine lv_iconst (v := 0) C.1 C.2.1 dX9_size_1 (by decide) ?_
  obtain ⟨d_ad1, e1, hf⟩ := bx hf
  refine r_put C hw _ (gx_h dO_o) 0 fp_X9_75 rfl rfl (Nat.le_of_ble_eq_true rfl) (dO G ad d_ad1 dw ++ []) (sx_h dO_o (dO_p0 e1)) dX9_size_2 (fun H locs hw => ?_)
  refine r_iload0 C hl 1 rfl dX9_size_5 ?_
  refine lv_if_ne (tgt := 16) C.1 C.2.1 dX9_size_6 (by decide) (fun hc => ?_) (fun hc => ?_)
  · replace hf := ifn hf hc
    refine r_iload0 C hl 1 rfl dX9_size_16 ?_
    refine lv_iconst (v := 1) C.1 C.2.1 dX9_size_17 (by decide) ?_
    refine lv_icmp_ne (tgt := 28) C.1 C.2.1 dX9_size_18 (by decide) (fun hc => ?_) (fun hc => ?_)
    · replace hf := ifn hf hc
      refine lv_iconst (v := (-1)) C.1 C.2.1 dX9_size_28 (by decide) ?_
      exact fin_i C hw (Option.some.inj hf) (fun o => o.1) (fun o => (dO G ad o.2 dw ++ [])) rfl rfl dX9_size_29
    · replace hf := ifp hf hc
      refine r_aload0 C hl 0 rfl dX9_size_21 ?_
      refine r_get C hw _ (gx_h dO_o) 23 fl_X9_239 rfl dX9_size_22 ?_
      refine lv_goto (tgt := 29) C.1 C.2.1 dX9_size_25 (by decide) ?_
      exact fin_i C hw (Option.some.inj hf) (fun o => o.1) (fun o => (dO G ad o.2 dw ++ [])) rfl rfl dX9_size_29
  · replace hf := ifp hf hc
    refine r_aload0 C hl 0 rfl dX9_size_9 ?_
    refine r_get C hw _ (gx_h dO_o) 25 fl_X9_207 rfl dX9_size_10 ?_
    refine lv_goto (tgt := 29) C.1 C.2.1 dX9_size_13 (by decide) ?_
    exact fin_i C hw (Option.some.inj hf) (fun o => o.1) (fun o => (dO G ad o.2 dw ++ [])) rfl rfl dX9_size_29
set_option maxHeartbeats 4000000 in
set_option maxRecDepth 100000 in
theorem c_X9_trouble (l : Launch) (G : GG) (ad : Nat → Nat) (sz : Nat) (d_ad : Pic) (dw : Int64)  (out : Int32 × Pic) (hf : f_X9_trouble d_ad = some out) : Met l yX9_trouble (.code yX9_trouble cX9_trouble 1 (some .int) :: BT) ({ frames := 0, cells := 0, slots := 0, locals := 0 }) (va_Pc [.ref (ad 99)] (PreW G sz (dO G ad d_ad dw ++ []))) (Ans G out.1 (va_A (dO G ad d_ad dw ++ []) sz) (dO G ad out.2 dw ++ [])) 0 0 (va_A (dO G ad d_ad dw ++ []) sz) := by
  refine Met.into (by decide) (Nat.le_of_ble_eq_true rfl) ?_
  intro p e s m below meth c C hsz ls hl hw
  have hl : lv_has ls 1 [(0, .ref (ad 99))] := hl
  clear hsz
  generalize va_A (dO G ad d_ad dw ++ []) sz = A at hw ⊢
  unfold f_X9_trouble at hf
  refine r_aload0 C hl 0 rfl dX9_trouble_0 ?_
  refine lv_iconst (v := 0) C.1 C.2.1 dX9_trouble_1 (by decide) ?_
  obtain ⟨d_ad1, e1, hf⟩ := bx hf
  refine r_put C hw _ (gx_h dO_o) 0 fp_X9_75 rfl rfl (Nat.le_of_ble_eq_true rfl) (dO G ad d_ad1 dw ++ []) (sx_h dO_o (dO_p0 e1)) dX9_trouble_2 (fun H locs hw => ?_)
  refine r_aload0 C hl 0 rfl dX9_trouble_5 ?_
  refine r_get C hw _ (gx_h dO_o) 1 fl_X9_78 rfl dX9_trouble_6 ?_
  exact fin_i C hw (Option.some.inj hf) (fun o => o.1) (fun o => (dO G ad o.2 dw ++ [])) rfl rfl dX9_trouble_9
set_option maxHeartbeats 4000000 in
set_option maxRecDepth 100000 in
theorem c_X9_goOn (l : Launch) (G : GG) (ad : Nat → Nat) (sz : Nat) (d_ad : Pic) (dw : Int64)  (out : Pic × Int64) (hf : f_X9_goOn d_ad dw = some out) : Met l yX9_goOn (.code yX9_goOn cX9_goOn 2 none :: BT) ({ frames := 2, cells := 0, slots := 0, locals := 42 }) (va_Pc [.ref (ad 99)] (PreW G sz (dO G ad d_ad dw ++ []))) (Don G (va_A (dO G ad d_ad dw ++ []) sz) (dO G ad out.1 out.2 ++ [])) 0 0 (va_A (dO G ad d_ad dw ++ []) sz) := by
  refine Met.into (by decide) (Nat.le_of_ble_eq_true rfl) ?_
  intro p e s m below meth c C hsz ls hl hw
  have hl : lv_has ls 2 [(0, .ref (ad 99))] := hl
  clear hsz
  generalize va_A (dO G ad d_ad dw ++ []) sz = A at hw ⊢
  have hB_8 : ∀ (k8 : Pic → Int64 → Option (Pic × Int64)) (hk8 : ∀ (d_ad : Pic) (dw : Int64), k8 d_ad dw = some out → ∀ (H : Heap) (locs : List Loc), Wd G A s H locs (dO G ad d_ad dw ++ []) → ∀ ls : Array Slot, lv_has ls 2 [(0, .ref (ad 99))] → W p l e ({ frames := 2, cells := 0, slots := 0, locals := 42 }) s m [.ref (ad 99)].toArray below meth c H locs 0 0 (MQ below (Don G A (dO G ad out.1 out.2 ++ [])) [.ref (ad 99)].toArray s 0 0 A) (F0 m 8 ls [])), ∀ (d_ad : Pic) (dw : Int64), b_X9_goOn_8  k8 d_ad dw = some out → ∀ (H : Heap) (locs : List Loc), Wd G A s H locs (dO G ad d_ad dw ++ []) → ∀ ls : Array Slot, lv_has ls 2 [(0, .ref (ad 99))] → W p l e ({ frames := 2, cells := 0, slots := 0, locals := 42 }) s m [.ref (ad 99)].toArray below meth c H locs 0 0 (MQ below (Don G A (dO G ad out.1 out.2 ++ [])) [.ref (ad 99)].toArray s 0 0 A) (F0 m 8 ls []) := by
    intro k8 hk8 d_ad dw hf H locs hw ls hl
    unfold b_X9_goOn_8 at hf
    refine r_aload0 C hl 0 rfl dX9_goOn_8 ?_
    refine r_aload0 C hl 0 rfl dX9_goOn_9 ?_
    refine r_get C hw _ (gx_h dO_o) 27 fl_X9_87 rfl dX9_goOn_10 ?_
    obtain ⟨u1, e1, hf⟩ := bx hf
    refine r_callVi (ws' := (dO G ad d_ad dw ++ [])) (As := [.int (gS d_ad 27)]) (rest := []) C hw hl.1 kX9_byteAt ml_X9_90 (c_X9_byteAt l G ad _ d_ad dw (gS d_ad 27) u1 e1) (CutX.take dO_f CutX.none) _ (gx_h dO_o) rfl ⟨rfl, rfl⟩ ⟨Nat.le_of_ble_eq_true rfl, Nat.le_of_ble_eq_true rfl⟩ rfl ⟨Nat.zero_le _, Nat.zero_le _⟩ rfl (Nat.le_of_ble_eq_true rfl) dX9_goOn_13 (fun H locs hw => ?_)
    refine lv_bipush (v := 32) C.1 C.2.1 dX9_goOn_16 (by decide) ?_
    refine lv_icmp_ne (tgt := 34) C.1 C.2.1 dX9_goOn_18 (by decide) (fun hc => ?_) (fun hc => ?_)
    · replace hf := ifn hf hc
      refine r_aload0 C hl 0 rfl dX9_goOn_34 ?_
      refine r_aload0 C hl 0 rfl dX9_goOn_35 ?_
      refine r_get C hw _ (gx_h dO_o) 27 fl_X9_87 rfl dX9_goOn_36 ?_
      obtain ⟨d_ad2, e2, hf⟩ := bx hf
      refine r_put C hw _ (gx_h dO_o) 29 fp_X9_94 rfl rfl (Nat.le_of_ble_eq_true rfl) (dO G ad d_ad2 dw ++ []) (sx_h dO_o (dO_p29 e2)) dX9_goOn_39 (fun H locs hw => ?_)
      refine r_aload0 C hl 0 rfl dX9_goOn_42 ?_
      refine r_aload0 C hl 0 rfl dX9_goOn_43 ?_
      refine r_get C hw _ (gx_h dO_o) 27 fl_X9_87 rfl dX9_goOn_44 ?_
      obtain ⟨u3, e3, hf⟩ := bx hf
      refine r_callVi (ws' := (dO G ad d_ad2 dw ++ [])) (As := [.int (gS d_ad2 27)]) (rest := []) C hw hl.1 kX9_byteAt ml_X9_90 (c_X9_byteAt l G ad _ d_ad2 dw (gS d_ad2 27) u3 e3) (CutX.take dO_f CutX.none) _ (gx_h dO_o) rfl ⟨rfl, rfl⟩ ⟨Nat.le_of_ble_eq_true rfl, Nat.le_of_ble_eq_true rfl⟩ rfl ⟨Nat.zero_le _, Nat.zero_le _⟩ rfl (Nat.le_of_ble_eq_true rfl) dX9_goOn_47 (fun H locs hw => ?_)
      refine r_istore0 C hl [(1, .int u3), (0, .ref (ad 99))] (by decide) rfl dX9_goOn_50 (fun ls hl => ?_)
      refine r_iload0 C hl 0 rfl dX9_goOn_51 ?_
      refine lv_iconst (v := (-1)) C.1 C.2.1 dX9_goOn_52 (by decide) ?_
      refine lv_icmp_ne (tgt := 64) C.1 C.2.1 dX9_goOn_53 (by decide) (fun hc => ?_) (fun hc => ?_)
      · replace hf := ifn hf hc
        refine r_iload0 C hl 0 rfl dX9_goOn_64 ?_
        refine lv_bipush (v := 97) C.1 C.2.1 dX9_goOn_65 (by decide) ?_
        refine lv_bipush (v := 122) C.1 C.2.1 dX9_goOn_67 (by decide) ?_
        obtain ⟨u4, e4, hf⟩ := bx hf
        refine r_callSi (ws' := (dO G ad d_ad2 dw ++ [])) (As := [.int u3, .int 97, .int 122]) (rest := []) C hw hl.1 kX9_in ml_X9_100 (c_X9_in l G _ u3 97 122 u4 e4) CutX.none ⟨rfl, rfl⟩ ⟨Nat.le_of_ble_eq_true rfl, Nat.le_of_ble_eq_true rfl⟩ rfl ⟨Nat.zero_le _, Nat.zero_le _⟩ rfl (Nat.le_of_ble_eq_true rfl) dX9_goOn_69 (fun H locs hw => ?_)
        refine lv_if_eq (tgt := 82) C.1 C.2.1 dX9_goOn_72 (by decide) (fun hc => ?_) (fun hc => ?_)
        · replace hf := ifp hf hc
          refine r_iload0 C hl 0 rfl dX9_goOn_82 ?_
          refine lv_bipush (v := 48) C.1 C.2.1 dX9_goOn_83 (by decide) ?_
          refine lv_bipush (v := 57) C.1 C.2.1 dX9_goOn_85 (by decide) ?_
          obtain ⟨u5, e5, hf⟩ := bx hf
          refine r_callSi (ws' := (dO G ad d_ad2 dw ++ [])) (As := [.int u3, .int 48, .int 57]) (rest := []) C hw hl.1 kX9_in ml_X9_100 (c_X9_in l G _ u3 48 57 u5 e5) CutX.none ⟨rfl, rfl⟩ ⟨Nat.le_of_ble_eq_true rfl, Nat.le_of_ble_eq_true rfl⟩ rfl ⟨Nat.zero_le _, Nat.zero_le _⟩ rfl (Nat.le_of_ble_eq_true rfl) dX9_goOn_87 (fun H locs hw => ?_)
          refine lv_if_eq (tgt := 100) C.1 C.2.1 dX9_goOn_90 (by decide) (fun hc => ?_) (fun hc => ?_)
          · replace hf := ifp hf hc
            refine r_aload0 C hl 1 rfl dX9_goOn_100 ?_
            refine r_iload0 C hl 0 rfl dX9_goOn_101 ?_
            obtain ⟨u6, e6, hf⟩ := bx hf
            refine r_callVv (ws' := (dO G ad u6 dw ++ [])) (As := [.int u3]) (rest := []) C hw hl.1 kX9_nextSign ml_X9_110 (c_X9_nextSign l G ad _ d_ad2 dw u3 u6 e6) (CutX.take dO_f CutX.none) _ (gx_h dO_o) rfl ⟨rfl, rfl⟩ ⟨Nat.le_of_ble_eq_true rfl, Nat.le_of_ble_eq_true rfl⟩ rfl ⟨Nat.zero_le _, Nat.zero_le _⟩ rfl (Nat.le_of_ble_eq_true rfl) dX9_goOn_102 (fun H locs hw => ?_)
            exact fin_v C hw (Option.some.inj hf) (fun o => (dO G ad o.1 o.2 ++ [])) rfl dX9_goOn_105
          · replace hf := ifn hf hc
            refine r_aload0 C hl 1 rfl dX9_goOn_93 ?_
            obtain ⟨u7, e7, hf⟩ := bx hf
            refine r_callVv (ws' := (dO G ad u7 dw ++ [])) (As := []) (rest := []) C hw hl.1 kX9_nextWhole ml_X9_107 (c_X9_nextWhole l G ad _ d_ad2 dw u7 e7) (CutX.take dO_f CutX.none) _ (gx_h dO_o) rfl ⟨rfl, rfl⟩ ⟨Nat.le_of_ble_eq_true rfl, Nat.le_of_ble_eq_true rfl⟩ rfl ⟨Nat.zero_le _, Nat.zero_le _⟩ rfl (Nat.le_of_ble_eq_true rfl) dX9_goOn_94 (fun H locs hw => ?_)
            refine lv_goto (tgt := 105) C.1 C.2.1 dX9_goOn_97 (by decide) ?_
            exact fin_v C hw (Option.some.inj hf) (fun o => (dO G ad o.1 o.2 ++ [])) rfl dX9_goOn_105
        · replace hf := ifn hf hc
          refine r_aload0 C hl 1 rfl dX9_goOn_75 ?_
          obtain ⟨u8, e8, hf⟩ := bx hf
          refine r_callVv (ws' := (dO G ad u8.1 u8.2 ++ [])) (As := []) (rest := []) C hw hl.1 kX9_nextWord ml_X9_104 (c_X9_nextWord l G ad _ d_ad2 dw u8 e8) (CutX.take dO_f CutX.none) _ (gx_h dO_o) rfl ⟨rfl, rfl⟩ ⟨Nat.le_of_ble_eq_true rfl, Nat.le_of_ble_eq_true rfl⟩ rfl ⟨Nat.zero_le _, Nat.zero_le _⟩ rfl (Nat.le_of_ble_eq_true rfl) dX9_goOn_76 (fun H locs hw => ?_)
          refine lv_goto (tgt := 105) C.1 C.2.1 dX9_goOn_79 (by decide) ?_
          exact fin_v C hw (Option.some.inj hf) (fun o => (dO G ad o.1 o.2 ++ [])) rfl dX9_goOn_105
      · replace hf := ifp hf hc
        refine r_aload0 C hl 1 rfl dX9_goOn_56 ?_
        refine lv_iconst (v := 1) C.1 C.2.1 dX9_goOn_57 (by decide) ?_
        obtain ⟨d_ad9, e9, hf⟩ := bx hf
        refine r_put C hw _ (gx_h dO_o) 28 fp_X9_97 rfl rfl (Nat.le_of_ble_eq_true rfl) (dO G ad d_ad9 dw ++ []) (sx_h dO_o (dO_p28 e9)) dX9_goOn_58 (fun H locs hw => ?_)
        refine lv_goto (tgt := 105) C.1 C.2.1 dX9_goOn_61 (by decide) ?_
        exact fin_v C hw (Option.some.inj hf) (fun o => (dO G ad o.1 o.2 ++ [])) rfl dX9_goOn_105
    · replace hf := ifp hf hc
      refine r_aload0 C hl 0 rfl dX9_goOn_21 ?_
      refine lv_dup C.1 C.2.1 dX9_goOn_22 rfl ?_
      refine r_get C hw _ (gx_h dO_o) 27 fl_X9_87 rfl dX9_goOn_23 ?_
      refine lv_iconst (v := 1) C.1 C.2.1 dX9_goOn_26 (by decide) ?_
      refine lv_iadd C.1 C.2.1 dX9_goOn_27 ?_
      obtain ⟨d_ad10, e10, hf⟩ := bx hf
      refine r_put C hw _ (gx_h dO_o) 27 fp_X9_87 rfl rfl (Nat.le_of_ble_eq_true rfl) (dO G ad d_ad10 dw ++ []) (sx_h dO_o (dO_p27 e10)) dX9_goOn_28 (fun H locs hw => ?_)
      refine lv_goto (tgt := 8) C.1 C.2.1 dX9_goOn_31 (by decide) ?_
      exact hk8 d_ad10 dw hf _ _ hw _ (lv_sub hl [0] rfl)
  have hL_8 : ∀ n : Nat, ∀ (d_ad : Pic) (dw : Int64), L_X9_goOn_8   n d_ad dw = some out → ∀ (H : Heap) (locs : List Loc), Wd G A s H locs (dO G ad d_ad dw ++ []) → ∀ ls : Array Slot, lv_has ls 2 [(0, .ref (ad 99))] → W p l e ({ frames := 2, cells := 0, slots := 0, locals := 42 }) s m [.ref (ad 99)].toArray below meth c H locs 0 0 (MQ below (Don G A (dO G ad out.1 out.2 ++ [])) [.ref (ad 99)].toArray s 0 0 A) (F0 m 8 ls []) := by
    intro  n
    induction n with
    | zero => intro d_ad dw hf; cases hf
    | succ n ih => exact hB_8 _ ih
  unfold f_X9_goOn at hf
  refine r_aload0 C hl 0 rfl dX9_goOn_0 ?_
  refine r_get C hw _ (gx_h dO_o) 31 fl_X9_84 rfl dX9_goOn_1 ?_
  refine lv_if_le (tgt := 8) C.1 C.2.1 dX9_goOn_4 (by decide) (fun hc => ?_) (fun hc => ?_)
  · replace hf := ifp hf hc
    exact hL_8  FU d_ad dw hf _ _ hw _ (lv_sub hl [0] rfl)
  · replace hf := ifn hf hc
    exact fin_v C hw (Option.some.inj hf) (fun o => (dO G ad o.1 o.2 ++ [])) rfl dX9_goOn_7
set_option maxHeartbeats 4000000 in
set_option maxRecDepth 100000 in
theorem c_X9_readWhole (l : Launch) (G : GG) (ad : Nat → Nat) (sz : Nat) (d_ad : Pic) (dw : Int64) (x1 : Int32) (x2 : Int32) (out : Int32 × Pic × Int64) (hf : f_X9_readWhole d_ad dw x1 x2 = some out) : Met l yX9_readWhole (.code yX9_readWhole cX9_readWhole 4 (some .int) :: BT) ({ frames := 3, cells := 0, slots := 0, locals := 63 }) (va_Pc [.ref (ad 99), .int x1, .int x2] (PreW G sz (dO G ad d_ad dw ++ []))) (Ans G out.1 (va_A (dO G ad d_ad dw ++ []) sz) (dO G ad out.2.1 out.2.2 ++ [])) 0 0 (va_A (dO G ad d_ad dw ++ []) sz) := by
  refine Met.into (by decide) (Nat.le_of_ble_eq_true rfl) ?_
  intro p e s m below meth c C hsz ls hl hw
  have hl : lv_has ls 4 [(0, .ref (ad 99)), (1, .int x1), (2, .int x2)] := hl
  clear hsz
  generalize va_A (dO G ad d_ad dw ++ []) sz = A at hw ⊢
  unfold f_X9_readWhole at hf
  refine r_aload0 C hl 0 rfl dX9_readWhole_0 ?_
  refine r_iload0 C hl 1 rfl dX9_readWhole_1 ?_
  refine r_iload0 C hl 2 rfl dX9_readWhole_2 ?_
  obtain ⟨u1, e1, hf⟩ := bx hf
  refine r_callVi (ws' := (dO G ad u1.2 dw ++ [])) (As := [.int x1, .int x2]) (rest := []) C hw hl.1 kX9_wholeAt ml_X9_134 (c_X9_wholeAt l G ad _ d_ad dw x1 x2 u1 e1) (CutX.take dO_f CutX.none) _ (gx_h dO_o) rfl ⟨rfl, rfl⟩ ⟨Nat.le_of_ble_eq_true rfl, Nat.le_of_ble_eq_true rfl⟩ rfl ⟨Nat.zero_le _, Nat.zero_le _⟩ rfl (Nat.le_of_ble_eq_true rfl) dX9_readWhole_3 (fun H locs hw => ?_)
  refine r_istore0 C hl [(3, .int u1.1), (0, .ref (ad 99)), (1, .int x1), (2, .int x2)] (by decide) rfl dX9_readWhole_6 (fun ls hl => ?_)
  refine r_aload0 C hl 1 rfl dX9_readWhole_7 ?_
  obtain ⟨u2, e2, hf⟩ := bx hf
  refine r_callVv (ws' := (dO G ad u2.1 u2.2 ++ [])) (As := []) (rest := []) C hw hl.1 kX9_goOn ml_X9_138 (c_X9_goOn l G ad _ u1.2 dw u2 e2) (CutX.take dO_f CutX.none) _ (gx_h dO_o) rfl ⟨rfl, rfl⟩ ⟨Nat.le_of_ble_eq_true rfl, Nat.le_of_ble_eq_true rfl⟩ rfl ⟨Nat.zero_le _, Nat.zero_le _⟩ rfl (Nat.le_of_ble_eq_true rfl) dX9_readWhole_8 (fun H locs hw => ?_)
  refine r_iload0 C hl 0 rfl dX9_readWhole_11 ?_
  exact fin_i C hw (Option.some.inj hf) (fun o => o.1) (fun o => (dO G ad o.2.1 o.2.2 ++ [])) rfl rfl dX9_readWhole_12
set_option maxHeartbeats 4000000 in
set_option maxRecDepth 100000 in
theorem c_X9_readPart (l : Launch) (G : GG) (K : SK) (ad : Nat → Nat) (sz : Nat) (d_ad : Pic) (dw : Int64) (w1 : Nat) (x2 : Int32) (x3 : Int32) (hi_w1 : w1 < 9) (out : Int32 × Pic × Int64) (hf : f_X9_readPart d_ad dw w1 x2 x3 = some out) : Met l yX9_readPart (.code yX9_readPart cX9_readPart 4 (some .int) :: BT) ({ frames := 5, cells := 0, slots := 0, locals := 109 }) (va_Pc [.ref (ad 99), .ref (K.1 w1), .int x2, .int x3] (PreT G K sz (dO G ad d_ad dw ++ []))) (Ans G out.1 (va_A (dO G ad d_ad dw ++ []) sz) (dO G ad out.2.1 out.2.2 ++ [])) 0 0 (va_A (dO G ad d_ad dw ++ []) sz) := by
  refine Met.intoT (by decide) (Nat.le_of_ble_eq_true rfl) ?_
  intro p e s m below meth c C hsz hq ls hl hw
  have hl : lv_has ls 4 [(0, .ref (ad 99)), (1, .ref (K.1 w1)), (2, .int x2), (3, .int x3)] := hl
  clear hsz
  generalize va_A (dO G ad d_ad dw ++ []) sz = A at hw hq ⊢
  have hB_13 : ∀ (d_ad : Pic) (dw : Int64), b_X9_readPart_13 w1 x2 x3  d_ad dw = some out → ∀ (H : Heap) (locs : List Loc), Wd G A s H locs (dO G ad d_ad dw ++ []) → ∀ ls : Array Slot, lv_has ls 4 [(0, .ref (ad 99)), (2, .int x2), (3, .int x3)] → W p l e ({ frames := 5, cells := 0, slots := 0, locals := 109 }) s m [.ref (ad 99), .ref (K.1 w1), .int x2, .int x3].toArray below meth c H locs 0 0 (MQ below (Ans G out.1 A (dO G ad out.2.1 out.2.2 ++ [])) [.ref (ad 99), .ref (K.1 w1), .int x2, .int x3].toArray s 0 0 A) (F0 m 13 ls []) := by
    intro d_ad dw hf H locs hw ls hl
    unfold b_X9_readPart_13 at hf
    refine r_aload0 C hl 0 rfl dX9_readPart_13 ?_
    obtain ⟨u2, e2, hf⟩ := bx hf
    refine r_callVv (ws' := (dO G ad u2.1 u2.2 ++ [])) (As := []) (rest := []) C hw hl.1 kX9_goOn ml_X9_138 (c_X9_goOn l G ad _ d_ad dw u2 e2) (CutX.take dO_f CutX.none) _ (gx_h dO_o) rfl ⟨rfl, rfl⟩ ⟨Nat.le_of_ble_eq_true rfl, Nat.le_of_ble_eq_true rfl⟩ rfl ⟨Nat.zero_le _, Nat.zero_le _⟩ rfl (Nat.le_of_ble_eq_true rfl) dX9_readPart_14 (fun H locs hw => ?_)
    refine r_aload0 C hl 0 rfl dX9_readPart_17 ?_
    refine r_iload0 C hl 1 rfl dX9_readPart_18 ?_
    refine r_iload0 C hl 2 rfl dX9_readPart_19 ?_
    obtain ⟨u3, e3, hf⟩ := bx hf
    refine r_callVi (ws' := (dO G ad u3.2.1 u3.2.2 ++ [])) (As := [.int x2, .int x3]) (rest := []) C hw hl.1 kX9_readWhole ml_X9_145 (c_X9_readWhole l G ad _ u2.1 u2.2 x2 x3 u3 e3) (CutX.take dO_f CutX.none) _ (gx_h dO_o) rfl ⟨rfl, rfl⟩ ⟨Nat.le_of_ble_eq_true rfl, Nat.le_of_ble_eq_true rfl⟩ rfl ⟨Nat.zero_le _, Nat.zero_le _⟩ rfl (Nat.le_of_ble_eq_true rfl) dX9_readPart_20 (fun H locs hw => ?_)
    exact fin_i C hw (Option.some.inj hf) (fun o => o.1) (fun o => (dO G ad o.2.1 o.2.2 ++ [])) rfl rfl dX9_readPart_23
  unfold f_X9_readPart at hf
  refine r_aload0 C hl 0 rfl dX9_readPart_0 ?_
  refine r_aload0 C hl 1 rfl dX9_readPart_1 ?_
  obtain ⟨u1, e1, hf⟩ := bx hf
  refine g_callVi (ws' := (dO G ad d_ad dw ++ [])) (As := [.ref (K.1 w1)]) (rest := []) C hw hl.1 kX9_isWord ml_X9_141 (c_X9_isWord l G K ad _ d_ad dw w1 hi_w1 u1 e1) blindT (CutX.take dO_f CutX.none) (fun hf U hU hW hp => ⟨hp, hq.pass hw.2.2.2.1 hf hU hW⟩) (va_recv hw.1 hw.2.1 rfl (gx_h dO_o)) ⟨rfl, rfl⟩ ⟨Nat.le_of_ble_eq_true rfl, Nat.le_of_ble_eq_true rfl⟩ rfl ⟨Nat.zero_le _, Nat.zero_le _⟩ rfl (Nat.le_of_ble_eq_true rfl) dX9_readPart_2 (fun H locs hw => ?_)
  refine lv_if_ne (tgt := 13) C.1 C.2.1 dX9_readPart_5 (by decide) (fun hc => ?_) (fun hc => ?_)
  · replace hf := ifn hf hc
    exact hB_13  d_ad dw hf _ _ hw _ (lv_sub hl [0, 2, 3] rfl)
  · replace hf := ifp hf hc
    refine r_aload0 C hl 0 rfl dX9_readPart_8 ?_
    refine lv_iconst (v := 1) C.1 C.2.1 dX9_readPart_9 (by decide) ?_
    obtain ⟨u4, e4, hf⟩ := bx hf
    refine r_callVv (ws' := (dO G ad u4 dw ++ [])) (As := [.int 1]) (rest := []) C hw hl.1 kX9_flaw ml_X9_131 (c_X9_flaw l G ad _ d_ad dw 1 u4 e4) (CutX.take dO_f CutX.none) _ (gx_h dO_o) rfl ⟨rfl, rfl⟩ ⟨Nat.le_of_ble_eq_true rfl, Nat.le_of_ble_eq_true rfl⟩ rfl ⟨Nat.zero_le _, Nat.zero_le _⟩ rfl (Nat.le_of_ble_eq_true rfl) dX9_readPart_10 (fun H locs hw => ?_)
    exact hB_13  u4 dw hf _ _ hw _ (lv_sub hl [0, 2, 3] rfl)
set_option maxHeartbeats 4000000 in
set_option maxRecDepth 100000 in
theorem c_X9_readSwap (l : Launch) (G : GG) (K : SK) (ad : Nat → Nat) (sz : Nat) (d_ad : Pic) (dw : Int64)  (out : Pic × Int64) (hf : f_X9_readSwap d_ad dw = some out) : Met l yX9_readSwap (.code yX9_readSwap cX9_readSwap 4 none :: BT) ({ frames := 6, cells := 0, slots := 0, locals := 132 }) (va_Pc [.ref (ad 99)] (PreT G K sz (dO G ad d_ad dw ++ []))) (Don G (va_A (dO G ad d_ad dw ++ []) sz) (dO G ad out.1 out.2 ++ [])) 0 0 (va_A (dO G ad d_ad dw ++ []) sz) := by
  refine Met.intoT (by decide) (Nat.le_of_ble_eq_true rfl) ?_
  intro p e s m below meth c C hsz hq ls hl hw
  have hl : lv_has ls 4 [(0, .ref (ad 99))] := hl
  clear hsz
  generalize va_A (dO G ad d_ad dw ++ []) sz = A at hw hq ⊢
  have hB_12 : ∀ (d_ad : Pic) (dw : Int64), b_X9_readSwap_12   d_ad dw = some out → ∀ (H : Heap) (locs : List Loc), Wd G A s H locs (dO G ad d_ad dw ++ []) → ∀ ls : Array Slot, lv_has ls 4 [(0, .ref (ad 99))] → W p l e ({ frames := 6, cells := 0, slots := 0, locals := 132 }) s m [.ref (ad 99)].toArray below meth c H locs 0 0 (MQ below (Don G A (dO G ad out.1 out.2 ++ [])) [.ref (ad 99)].toArray s 0 0 A) (F0 m 12 ls []) := by
    intro d_ad dw hf H locs hw ls hl
    unfold b_X9_readSwap_12 at hf
    refine r_aload0 C hl 0 rfl dX9_readSwap_12 ?_
    obtain ⟨u1, e1, hf⟩ := bx hf
    refine r_callVv (ws' := (dO G ad u1.1 u1.2 ++ [])) (As := []) (rest := []) C hw hl.1 kX9_goOn ml_X9_138 (c_X9_goOn l G ad _ d_ad dw u1 e1) (CutX.take dO_f CutX.none) _ (gx_h dO_o) rfl ⟨rfl, rfl⟩ ⟨Nat.le_of_ble_eq_true rfl, Nat.le_of_ble_eq_true rfl⟩ rfl ⟨Nat.zero_le _, Nat.zero_le _⟩ rfl (Nat.le_of_ble_eq_true rfl) dX9_readSwap_13 (fun H locs hw => ?_)
    refine r_aload0 C hl 0 rfl dX9_readSwap_16 ?_
    refine va_ldcS C.1 C.2.1 C.2.2.2.1 (hq.2.1 1 (by decide)).2 dX9_readSwap_17 ?_
    refine lv_iconst (v := 1) C.1 C.2.1 dX9_readSwap_19 (by decide) ?_
    refine lv_bipush (v := 24) C.1 C.2.1 dX9_readSwap_20 (by decide) ?_
    obtain ⟨u2, e2, hf⟩ := bx hf
    refine g_callVi (ws' := (dO G ad u2.2.1 u2.2.2 ++ [])) (As := [.ref (K.1 1), .int 1, .int 24]) (rest := []) C hw hl.1 kX9_readPart ml_X9_185 (c_X9_readPart l G K ad _ u1.1 u1.2 1 1 24 (by decide) u2 e2) blindT (CutX.take dO_f CutX.none) (fun hf U hU hW hp => ⟨hp, hq.pass hw.2.2.2.1 hf hU hW⟩) (va_recv hw.1 hw.2.1 rfl (gx_h dO_o)) ⟨rfl, rfl⟩ ⟨Nat.le_of_ble_eq_true rfl, Nat.le_of_ble_eq_true rfl⟩ rfl ⟨Nat.zero_le _, Nat.zero_le _⟩ rfl (Nat.le_of_ble_eq_true rfl) dX9_readSwap_22 (fun H locs hw => ?_)
    refine r_istore0 C hl [(1, .int u2.1), (0, .ref (ad 99))] (by decide) rfl dX9_readSwap_25 (fun ls hl => ?_)
    refine r_aload0 C hl 1 rfl dX9_readSwap_26 ?_
    refine va_ldcS C.1 C.2.1 C.2.2.2.1 (hq.2.1 2 (by decide)).2 dX9_readSwap_27 ?_
    refine lv_iconst (v := 1) C.1 C.2.1 dX9_readSwap_29 (by decide) ?_
    refine lv_iconst (v := 4) C.1 C.2.1 dX9_readSwap_30 (by decide) ?_
    obtain ⟨u3, e3, hf⟩ := bx hf
    refine g_callVi (ws' := (dO G ad u3.2.1 u3.2.2 ++ [])) (As := [.ref (K.1 2), .int 1, .int 4]) (rest := []) C hw hl.1 kX9_readPart ml_X9_185 (c_X9_readPart l G K ad _ u2.2.1 u2.2.2 2 1 4 (by decide) u3 e3) blindT (CutX.take dO_f CutX.none) (fun hf U hU hW hp => ⟨hp, hq.pass hw.2.2.2.1 hf hU hW⟩) (va_recv hw.1 hw.2.1 rfl (gx_h dO_o)) ⟨rfl, rfl⟩ ⟨Nat.le_of_ble_eq_true rfl, Nat.le_of_ble_eq_true rfl⟩ rfl ⟨Nat.zero_le _, Nat.zero_le _⟩ rfl (Nat.le_of_ble_eq_true rfl) dX9_readSwap_31 (fun H locs hw => ?_)
    refine r_istore0 C hl [(2, .int u3.1), (1, .int u2.1), (0, .ref (ad 99))] (by decide) rfl dX9_readSwap_34 (fun ls hl => ?_)
    refine r_aload0 C hl 2 rfl dX9_readSwap_35 ?_
    refine va_ldcS C.1 C.2.1 C.2.2.2.1 (hq.2.1 3 (by decide)).2 dX9_readSwap_36 ?_
    refine lv_iconst (v := 4) C.1 C.2.1 dX9_readSwap_38 (by decide) ?_
    refine lv_bipush (v := 15) C.1 C.2.1 dX9_readSwap_39 (by decide) ?_
    obtain ⟨u4, e4, hf⟩ := bx hf
    refine g_callVi (ws' := (dO G ad u4.2.1 u4.2.2 ++ [])) (As := [.ref (K.1 3), .int 4, .int 15]) (rest := []) C hw hl.1 kX9_readPart ml_X9_185 (c_X9_readPart l G K ad _ u3.2.1 u3.2.2 3 4 15 (by decide) u4 e4) blindT (CutX.take dO_f CutX.none) (fun hf U hU hW hp => ⟨hp, hq.pass hw.2.2.2.1 hf hU hW⟩) (va_recv hw.1 hw.2.1 rfl (gx_h dO_o)) ⟨rfl, rfl⟩ ⟨Nat.le_of_ble_eq_true rfl, Nat.le_of_ble_eq_true rfl⟩ rfl ⟨Nat.zero_le _, Nat.zero_le _⟩ rfl (Nat.le_of_ble_eq_true rfl) dX9_readSwap_41 (fun H locs hw => ?_)
    refine r_istore0 C hl [(3, .int u4.1), (2, .int u3.1), (1, .int u2.1), (0, .ref (ad 99))] (by decide) rfl dX9_readSwap_44 (fun ls hl => ?_)
    refine r_aload0 C hl 3 rfl dX9_readSwap_45 ?_
    refine r_get C hw _ (gx_h dO_o) 31 fl_X9_84 rfl dX9_readSwap_46 ?_
    refine lv_if_le (tgt := 53) C.1 C.2.1 dX9_readSwap_49 (by decide) (fun hc => ?_) (fun hc => ?_)
    · replace hf := ifp hf hc
      refine r_aload0 C hl 3 rfl dX9_readSwap_53 ?_
      refine r_iload0 C hl 2 rfl dX9_readSwap_54 ?_
      obtain ⟨d_ad5, e5, hf⟩ := bx hf
      refine r_put C hw _ (gx_h dO_o) 7 fp_X9_148 rfl rfl (Nat.le_of_ble_eq_true rfl) (dO G ad d_ad5 u4.2.2 ++ []) (sx_h dO_o (dO_p7 e5)) dX9_readSwap_55 (fun H locs hw => ?_)
      refine r_aload0 C hl 3 rfl dX9_readSwap_58 ?_
      refine r_iload0 C hl 1 rfl dX9_readSwap_59 ?_
      obtain ⟨d_ad6, e6, hf⟩ := bx hf
      refine r_put C hw _ (gx_h dO_o) 8 fp_X9_193 rfl rfl (Nat.le_of_ble_eq_true rfl) (dO G ad d_ad6 u4.2.2 ++ []) (sx_h dO_o (dO_p8 e6)) dX9_readSwap_60 (fun H locs hw => ?_)
      refine r_aload0 C hl 3 rfl dX9_readSwap_63 ?_
      refine r_iload0 C hl 0 rfl dX9_readSwap_64 ?_
      obtain ⟨d_ad7, e7, hf⟩ := bx hf
      refine r_put C hw _ (gx_h dO_o) 9 fp_X9_196 rfl rfl (Nat.le_of_ble_eq_true rfl) (dO G ad d_ad7 u4.2.2 ++ []) (sx_h dO_o (dO_p9 e7)) dX9_readSwap_65 (fun H locs hw => ?_)
      exact fin_v C hw (Option.some.inj hf) (fun o => (dO G ad o.1 o.2 ++ [])) rfl dX9_readSwap_68
    · replace hf := ifn hf hc
      exact fin_v C hw (Option.some.inj hf) (fun o => (dO G ad o.1 o.2 ++ [])) rfl dX9_readSwap_52
  unfold f_X9_readSwap at hf
  refine r_aload0 C hl 0 rfl dX9_readSwap_0 ?_
  refine r_get C hw _ (gx_h dO_o) 7 fl_X9_148 rfl dX9_readSwap_1 ?_
  refine lv_if_le (tgt := 12) C.1 C.2.1 dX9_readSwap_4 (by decide) (fun hc => ?_) (fun hc => ?_)
  · replace hf := ifp hf hc
    exact hB_12  d_ad dw hf _ _ hw _ (lv_sub hl [0] rfl)
  · replace hf := ifn hf hc
    refine r_aload0 C hl 0 rfl dX9_readSwap_7 ?_
    refine lv_iconst (v := 3) C.1 C.2.1 dX9_readSwap_8 (by decide) ?_
    obtain ⟨u8, e8, hf⟩ := bx hf
    refine r_callVv (ws' := (dO G ad u8 dw ++ [])) (As := [.int 3]) (rest := []) C hw hl.1 kX9_flaw ml_X9_131 (c_X9_flaw l G ad _ d_ad dw 3 u8 e8) (CutX.take dO_f CutX.none) _ (gx_h dO_o) rfl ⟨rfl, rfl⟩ ⟨Nat.le_of_ble_eq_true rfl, Nat.le_of_ble_eq_true rfl⟩ rfl ⟨Nat.zero_le _, Nat.zero_le _⟩ rfl (Nat.le_of_ble_eq_true rfl) dX9_readSwap_9 (fun H locs hw => ?_)
    exact hB_12  u8 dw hf _ _ hw _ (lv_sub hl [0] rfl)
set_option maxHeartbeats 4000000 in
set_option maxRecDepth 100000 in
theorem c_X9_begins (l : Launch) (G : GG) (ad : Nat → Nat) (sz : Nat) (d_ad : Pic) (dw : Int64) (x1 : Int32) (out : Pic × Int64) (hf : f_X9_begins d_ad dw x1 = some out) : Met l yX9_begins (.code yX9_begins cX9_begins 2 none :: BT) ({ frames := 3, cells := 0, slots := 0, locals := 63 }) (va_Pc [.ref (ad 99), .int x1] (PreW G sz (dO G ad d_ad dw ++ []))) (Don G (va_A (dO G ad d_ad dw ++ []) sz) (dO G ad out.1 out.2 ++ [])) 0 0 (va_A (dO G ad d_ad dw ++ []) sz) := by
  refine Met.into (by decide) (Nat.le_of_ble_eq_true rfl) ?_
  intro p e s m below meth c C hsz ls hl hw
  have hl : lv_has ls 2 [(0, .ref (ad 99)), (1, .int x1)] := hl
  clear hsz
  generalize va_A (dO G ad d_ad dw ++ []) sz = A at hw ⊢
  have hB_21 : ∀ (d_ad : Pic) (dw : Int64), b_X9_begins_21 x1  d_ad dw = some out → ∀ (H : Heap) (locs : List Loc), Wd G A s H locs (dO G ad d_ad dw ++ []) → ∀ ls : Array Slot, lv_has ls 2 [(0, .ref (ad 99))] → W p l e ({ frames := 3, cells := 0, slots := 0, locals := 63 }) s m [.ref (ad 99), .int x1].toArray below meth c H locs 0 0 (MQ below (Don G A (dO G ad out.1 out.2 ++ [])) [.ref (ad 99), .int x1].toArray s 0 0 A) (F0 m 21 ls []) := by
    intro d_ad dw hf H locs hw ls hl
    unfold b_X9_begins_21 at hf
    refine r_aload0 C hl 0 rfl dX9_begins_21 ?_
    obtain ⟨u1, e1, hf⟩ := bx hf
    refine r_callVv (ws' := (dO G ad u1.1 u1.2 ++ [])) (As := []) (rest := []) C hw hl.1 kX9_goOn ml_X9_138 (c_X9_goOn l G ad _ d_ad dw u1 e1) (CutX.take dO_f CutX.none) _ (gx_h dO_o) rfl ⟨rfl, rfl⟩ ⟨Nat.le_of_ble_eq_true rfl, Nat.le_of_ble_eq_true rfl⟩ rfl ⟨Nat.zero_le _, Nat.zero_le _⟩ rfl (Nat.le_of_ble_eq_true rfl) dX9_begins_22 (fun H locs hw => ?_)
    exact fin_v C hw (Option.some.inj hf) (fun o => (dO G ad o.1 o.2 ++ [])) rfl dX9_begins_25
  have hB_9 : ∀ (d_ad : Pic) (dw : Int64), b_X9_begins_9 x1  d_ad dw = some out → ∀ (H : Heap) (locs : List Loc), Wd G A s H locs (dO G ad d_ad dw ++ []) → ∀ ls : Array Slot, lv_has ls 2 [(0, .ref (ad 99))] → W p l e ({ frames := 3, cells := 0, slots := 0, locals := 63 }) s m [.ref (ad 99), .int x1].toArray below meth c H locs 0 0 (MQ below (Don G A (dO G ad out.1 out.2 ++ [])) [.ref (ad 99), .int x1].toArray s 0 0 A) (F0 m 9 ls []) := by
    intro d_ad dw hf H locs hw ls hl
    unfold b_X9_begins_9 at hf
    refine r_aload0 C hl 0 rfl dX9_begins_9 ?_
    refine r_get C hw _ (gx_h dO_o) 7 fl_X9_148 rfl dX9_begins_10 ?_
    refine lv_if_ne (tgt := 21) C.1 C.2.1 dX9_begins_13 (by decide) (fun hc => ?_) (fun hc => ?_)
    · replace hf := ifn hf hc
      exact hB_21  d_ad dw hf _ _ hw _ (lv_sub hl [0] rfl)
    · replace hf := ifp hf hc
      refine r_aload0 C hl 0 rfl dX9_begins_16 ?_
      refine lv_iconst (v := 5) C.1 C.2.1 dX9_begins_17 (by decide) ?_
      obtain ⟨u2, e2, hf⟩ := bx hf
      refine r_callVv (ws' := (dO G ad u2 dw ++ [])) (As := [.int 5]) (rest := []) C hw hl.1 kX9_flaw ml_X9_131 (c_X9_flaw l G ad _ d_ad dw 5 u2 e2) (CutX.take dO_f CutX.none) _ (gx_h dO_o) rfl ⟨rfl, rfl⟩ ⟨Nat.le_of_ble_eq_true rfl, Nat.le_of_ble_eq_true rfl⟩ rfl ⟨Nat.zero_le _, Nat.zero_le _⟩ rfl (Nat.le_of_ble_eq_true rfl) dX9_begins_18 (fun H locs hw => ?_)
      exact hB_21  u2 dw hf _ _ hw _ (lv_sub hl [0] rfl)
  unfold f_X9_begins at hf
  refine r_iload0 C hl 1 rfl dX9_begins_0 ?_
  refine lv_if_eq (tgt := 9) C.1 C.2.1 dX9_begins_1 (by decide) (fun hc => ?_) (fun hc => ?_)
  · replace hf := ifp hf hc
    exact hB_9  d_ad dw hf _ _ hw _ (lv_sub hl [0] rfl)
  · replace hf := ifn hf hc
    refine r_aload0 C hl 0 rfl dX9_begins_4 ?_
    refine lv_iconst (v := 4) C.1 C.2.1 dX9_begins_5 (by decide) ?_
    obtain ⟨u3, e3, hf⟩ := bx hf
    refine r_callVv (ws' := (dO G ad u3 dw ++ [])) (As := [.int 4]) (rest := []) C hw hl.1 kX9_flaw ml_X9_131 (c_X9_flaw l G ad _ d_ad dw 4 u3 e3) (CutX.take dO_f CutX.none) _ (gx_h dO_o) rfl ⟨rfl, rfl⟩ ⟨Nat.le_of_ble_eq_true rfl, Nat.le_of_ble_eq_true rfl⟩ rfl ⟨Nat.zero_le _, Nat.zero_le _⟩ rfl (Nat.le_of_ble_eq_true rfl) dX9_begins_6 (fun H locs hw => ?_)
    exact hB_9  u3 dw hf _ _ hw _ (lv_sub hl [0] rfl)
set_option maxHeartbeats 4000000 in
set_option maxRecDepth 100000 in
theorem c_X9_readSome (l : Launch) (G : GG) (K : SK) (ad : Nat → Nat) (sz : Nat) (d_ad : Pic) (dw : Int64) (x1 : Int32) (out : Int32 × Pic × Int64) (hf : f_X9_readSome d_ad dw x1 = some out) : Met l yX9_readSome (.code yX9_readSome cX9_readSome 5 (some .int) :: BT) ({ frames := 5, cells := 0, slots := 0, locals := 109 }) (va_Pc [.ref (ad 99), .int x1] (PreT G K sz (dO G ad d_ad dw ++ []))) (Ans G out.1 (va_A (dO G ad d_ad dw ++ []) sz) (dO G ad out.2.1 out.2.2 ++ [])) 0 0 (va_A (dO G ad d_ad dw ++ []) sz) := by
  refine Met.intoT (by decide) (Nat.le_of_ble_eq_true rfl) ?_
  intro p e s m below meth c C hsz hq ls hl hw
  have hl : lv_has ls 5 [(0, .ref (ad 99)), (1, .int x1)] := hl
  clear hsz
  generalize va_A (dO G ad d_ad dw ++ []) sz = A at hw hq ⊢
  have hB_91 : ∀ (k91 : Pic → Int64 → Int32 → Int32 → Int32 → Option (Int32 × Pic × Int64)) (hk91 : ∀ (d_ad : Pic) (dw : Int64) (v2 : Int32) (v3 : Int32) (v4 : Int32), k91 d_ad dw v2 v3 v4 = some out → ∀ (H : Heap) (locs : List Loc), Wd G A s H locs (dO G ad d_ad dw ++ []) → ∀ ls : Array Slot, lv_has ls 5 [(0, .ref (ad 99)), (1, .int x1), (2, .int v2), (3, .int v3), (4, .int v4)] → W p l e ({ frames := 5, cells := 0, slots := 0, locals := 109 }) s m [.ref (ad 99), .int x1].toArray below meth c H locs 0 0 (MQ below (Ans G out.1 A (dO G ad out.2.1 out.2.2 ++ [])) [.ref (ad 99), .int x1].toArray s 0 0 A) (F0 m 91 ls [])), ∀ (d_ad : Pic) (dw : Int64) (v2 : Int32) (v3 : Int32) (v4 : Int32), b_X9_readSome_91 x1 k91 d_ad dw v2 v3 v4 = some out → ∀ (H : Heap) (locs : List Loc), Wd G A s H locs (dO G ad d_ad dw ++ []) → ∀ ls : Array Slot, lv_has ls 5 [(0, .ref (ad 99)), (1, .int x1), (2, .int v2), (3, .int v3), (4, .int v4)] → W p l e ({ frames := 5, cells := 0, slots := 0, locals := 109 }) s m [.ref (ad 99), .int x1].toArray below meth c H locs 0 0 (MQ below (Ans G out.1 A (dO G ad out.2.1 out.2.2 ++ [])) [.ref (ad 99), .int x1].toArray s 0 0 A) (F0 m 91 ls []) := by
    intro k91 hk91 d_ad dw v2 v3 v4 hf H locs hw ls hl
    unfold b_X9_readSome_91 at hf
    refine r_iload C hl 4 rfl dX9_readSome_91 ?_
    refine r_iload0 C hl 1 rfl dX9_readSome_93 ?_
    refine r_iload0 C hl 3 rfl dX9_readSome_94 ?_
    refine lv_iadd C.1 C.2.1 dX9_readSome_95 ?_
    refine lv_icmp_ge (tgt := 121) C.1 C.2.1 dX9_readSome_96 (by decide) (fun hc => ?_) (fun hc => ?_)
    · replace hf := ifp hf hc
      refine r_iload0 C hl 1 rfl dX9_readSome_121 ?_
      refine r_iload0 C hl 3 rfl dX9_readSome_122 ?_
      refine lv_iadd C.1 C.2.1 dX9_readSome_123 ?_
      exact fin_i C hw (Option.some.inj hf) (fun o => o.1) (fun o => (dO G ad o.2.1 o.2.2 ++ [])) rfl rfl dX9_readSome_124
    · replace hf := ifn hf hc
      refine r_aload0 C hl 0 rfl dX9_readSome_99 ?_
      refine r_get C hw _ (gx_h dO_o) 18 fl_X9_32 rfl dX9_readSome_100 ?_
      refine lv_bipush (v := 16) C.1 C.2.1 dX9_readSome_103 (by decide) ?_
      refine r_aload0 C hl 0 rfl dX9_readSome_105 ?_
      refine r_get C hw _ (gx_h dO_o) 10 fl_X9_151 rfl dX9_readSome_106 ?_
      refine lv_imul C.1 C.2.1 dX9_readSome_109 ?_
      refine r_iload C hl 4 rfl dX9_readSome_110 ?_
      refine lv_iadd C.1 C.2.1 dX9_readSome_112 ?_
      refine r_iload0 C hl 2 rfl dX9_readSome_113 ?_
      obtain ⟨d_ad4, e4, hf⟩ := bx hf
      refine r_iast C hw _ (gx_h dO_g18) e4 (dO G ad d_ad4 dw ++ []) (fun h => (sx_h dO_g18 (dO_s18 h))) dX9_readSome_114 (fun H locs hw => ?_)
      refine r_iinc C hl 4 (v4 + 1) [(4, .int (v4 + 1)), (0, .ref (ad 99)), (1, .int x1), (2, .int v2), (3, .int v3)] rfl (iinc_e (by decide)) (by decide) rfl dX9_readSome_115 (fun ls hl => ?_)
      refine lv_goto (tgt := 91) C.1 C.2.1 dX9_readSome_118 (by decide) ?_
      exact hk91 d_ad4 dw v2 v3 (v4 + 1) hf _ _ hw _ (lv_sub hl [1, 2, 3, 4, 0] rfl)
  have hL_91 : ∀ n : Nat, ∀ (d_ad : Pic) (dw : Int64) (v2 : Int32) (v3 : Int32) (v4 : Int32), L_X9_readSome_91 x1  n d_ad dw v2 v3 v4 = some out → ∀ (H : Heap) (locs : List Loc), Wd G A s H locs (dO G ad d_ad dw ++ []) → ∀ ls : Array Slot, lv_has ls 5 [(0, .ref (ad 99)), (1, .int x1), (2, .int v2), (3, .int v3), (4, .int v4)] → W p l e ({ frames := 5, cells := 0, slots := 0, locals := 109 }) s m [.ref (ad 99), .int x1].toArray below meth c H locs 0 0 (MQ below (Ans G out.1 A (dO G ad out.2.1 out.2.2 ++ [])) [.ref (ad 99), .int x1].toArray s 0 0 A) (F0 m 91 ls []) := by
    intro  n
    induction n with
    | zero => intro d_ad dw v2 v3 v4 hf; cases hf
    | succ n ih => exact hB_91 _ ih
  have hB_79 : ∀ (d_ad : Pic) (dw : Int64) (v2 : Int32) (v3 : Int32), b_X9_readSome_79 x1  d_ad dw v2 v3 = some out → ∀ (H : Heap) (locs : List Loc), Wd G A s H locs (dO G ad d_ad dw ++ []) → ∀ ls : Array Slot, lv_has ls 5 [(0, .ref (ad 99)), (1, .int x1), (2, .int v2), (3, .int v3)] → W p l e ({ frames := 5, cells := 0, slots := 0, locals := 109 }) s m [.ref (ad 99), .int x1].toArray below meth c H locs 0 0 (MQ below (Ans G out.1 A (dO G ad out.2.1 out.2.2 ++ [])) [.ref (ad 99), .int x1].toArray s 0 0 A) (F0 m 79 ls []) := by
    intro d_ad dw v2 v3 hf H locs hw ls hl
    unfold b_X9_readSome_79 at hf
    refine r_aload0 C hl 0 rfl dX9_readSome_79 ?_
    refine r_get C hw _ (gx_h dO_o) 31 fl_X9_84 rfl dX9_readSome_80 ?_
    refine lv_if_le (tgt := 88) C.1 C.2.1 dX9_readSome_83 (by decide) (fun hc => ?_) (fun hc => ?_)
    · replace hf := ifp hf hc
      refine r_iload0 C hl 1 rfl dX9_readSome_88 ?_
      refine r_istore C hl [(4, .int x1), (0, .ref (ad 99)), (1, .int x1), (2, .int v2), (3, .int v3)] (by decide) rfl dX9_readSome_89 (fun ls hl => ?_)
      exact hL_91  FU d_ad dw v2 v3 x1 hf _ _ hw _ (lv_sub hl [1, 2, 3, 4, 0] rfl)
    · replace hf := ifn hf hc
      refine r_iload0 C hl 1 rfl dX9_readSome_86 ?_
      exact fin_i C hw (Option.some.inj hf) (fun o => o.1) (fun o => (dO G ad o.2.1 o.2.2 ++ [])) rfl rfl dX9_readSome_87
  have hB_75 : ∀ (d_ad : Pic) (dw : Int64) (v2 : Int32) (v3 : Int32), b_X9_readSome_75 x1  d_ad dw v2 v3 = some out → ∀ (H : Heap) (locs : List Loc), Wd G A s H locs (dO G ad d_ad dw ++ []) → ∀ ls : Array Slot, lv_has ls 5 [(0, .ref (ad 99)), (1, .int x1), (2, .int v2), (3, .int v3)] → W p l e ({ frames := 5, cells := 0, slots := 0, locals := 109 }) s m [.ref (ad 99), .int x1].toArray below meth c H locs 0 0 (MQ below (Ans G out.1 A (dO G ad out.2.1 out.2.2 ++ [])) [.ref (ad 99), .int x1].toArray s 0 0 A) (F0 m 75 ls []) := by
    intro d_ad dw v2 v3 hf H locs hw ls hl
    unfold b_X9_readSome_75 at hf
    refine r_aload0 C hl 0 rfl dX9_readSome_75 ?_
    obtain ⟨u7, e7, hf⟩ := bx hf
    refine r_callVv (ws' := (dO G ad u7.1 u7.2 ++ [])) (As := []) (rest := []) C hw hl.1 kX9_goOn ml_X9_138 (c_X9_goOn l G ad _ d_ad dw u7 e7) (CutX.take dO_f CutX.none) _ (gx_h dO_o) rfl ⟨rfl, rfl⟩ ⟨Nat.le_of_ble_eq_true rfl, Nat.le_of_ble_eq_true rfl⟩ rfl ⟨Nat.zero_le _, Nat.zero_le _⟩ rfl (Nat.le_of_ble_eq_true rfl) dX9_readSome_76 (fun H locs hw => ?_)
    exact hB_79  u7.1 u7.2 v2 v3 hf _ _ hw _ (lv_sub hl [0, 1, 2, 3] rfl)
  have hB_27 : ∀ (d_ad : Pic) (dw : Int64) (v2 : Int32), b_X9_readSome_27 x1  d_ad dw v2 = some out → ∀ (H : Heap) (locs : List Loc), Wd G A s H locs (dO G ad d_ad dw ++ []) → ∀ ls : Array Slot, lv_has ls 5 [(0, .ref (ad 99)), (1, .int x1), (2, .int v2)] → W p l e ({ frames := 5, cells := 0, slots := 0, locals := 109 }) s m [.ref (ad 99), .int x1].toArray below meth c H locs 0 0 (MQ below (Ans G out.1 A (dO G ad out.2.1 out.2.2 ++ [])) [.ref (ad 99), .int x1].toArray s 0 0 A) (F0 m 27 ls []) := by
    intro d_ad dw v2 hf H locs hw ls hl
    unfold b_X9_readSome_27 at hf
    refine r_aload0 C hl 0 rfl dX9_readSome_27 ?_
    obtain ⟨u2, e2, hf⟩ := bx hf
    refine r_callVv (ws' := (dO G ad u2.1 u2.2 ++ [])) (As := []) (rest := []) C hw hl.1 kX9_goOn ml_X9_138 (c_X9_goOn l G ad _ d_ad dw u2 e2) (CutX.take dO_f CutX.none) _ (gx_h dO_o) rfl ⟨rfl, rfl⟩ ⟨Nat.le_of_ble_eq_true rfl, Nat.le_of_ble_eq_true rfl⟩ rfl ⟨Nat.zero_le _, Nat.zero_le _⟩ rfl (Nat.le_of_ble_eq_true rfl) dX9_readSome_28 (fun H locs hw => ?_)
    refine lv_iconst (v := 1) C.1 C.2.1 dX9_readSome_31 (by decide) ?_
    refine r_istore0 C hl [(3, .int 1), (0, .ref (ad 99)), (1, .int x1), (2, .int v2)] (by decide) rfl dX9_readSome_32 (fun ls hl => ?_)
    refine r_aload0 C hl 1 rfl dX9_readSome_33 ?_
    refine va_ldcS C.1 C.2.1 C.2.2.2.1 (hq.2.1 5 (by decide)).2 dX9_readSome_34 ?_
    obtain ⟨u3, e3, hf⟩ := bx hf
    refine g_callVi (ws' := (dO G ad u2.1 u2.2 ++ [])) (As := [.ref (K.1 5)]) (rest := []) C hw hl.1 kX9_isWord ml_X9_141 (c_X9_isWord l G K ad _ u2.1 u2.2 5 (by decide) u3 e3) blindT (CutX.take dO_f CutX.none) (fun hf U hU hW hp => ⟨hp, hq.pass hw.2.2.2.1 hf hU hW⟩) (va_recv hw.1 hw.2.1 rfl (gx_h dO_o)) ⟨rfl, rfl⟩ ⟨Nat.le_of_ble_eq_true rfl, Nat.le_of_ble_eq_true rfl⟩ rfl ⟨Nat.zero_le _, Nat.zero_le _⟩ rfl (Nat.le_of_ble_eq_true rfl) dX9_readSome_36 (fun H locs hw => ?_)
    refine lv_if_eq (tgt := 79) C.1 C.2.1 dX9_readSome_39 (by decide) (fun hc => ?_) (fun hc => ?_)
    · replace hf := ifp hf hc
      exact hB_79  u2.1 u2.2 v2 1 hf _ _ hw _ (lv_sub hl [1, 2, 3, 0] rfl)
    · replace hf := ifn hf hc
      refine r_aload0 C hl 1 rfl dX9_readSome_42 ?_
      obtain ⟨u5, e5, hf⟩ := bx hf
      refine r_callVv (ws' := (dO G ad u5.1 u5.2 ++ [])) (As := []) (rest := []) C hw hl.1 kX9_goOn ml_X9_138 (c_X9_goOn l G ad _ u2.1 u2.2 u5 e5) (CutX.take dO_f CutX.none) _ (gx_h dO_o) rfl ⟨rfl, rfl⟩ ⟨Nat.le_of_ble_eq_true rfl, Nat.le_of_ble_eq_true rfl⟩ rfl ⟨Nat.zero_le _, Nat.zero_le _⟩ rfl (Nat.le_of_ble_eq_true rfl) dX9_readSome_43 (fun H locs hw => ?_)
      refine r_aload0 C hl 1 rfl dX9_readSome_46 ?_
      refine lv_iconst (v := 1) C.1 C.2.1 dX9_readSome_47 (by decide) ?_
      refine lv_bipush (v := 16) C.1 C.2.1 dX9_readSome_48 (by decide) ?_
      obtain ⟨u6, e6, hf⟩ := bx hf
      refine r_callVi (ws' := (dO G ad u6.2 u5.2 ++ [])) (As := [.int 1, .int 16]) (rest := []) C hw hl.1 kX9_wholeAt ml_X9_134 (c_X9_wholeAt l G ad _ u5.1 u5.2 1 16 u6 e6) (CutX.take dO_f CutX.none) _ (gx_h dO_o) rfl ⟨rfl, rfl⟩ ⟨Nat.le_of_ble_eq_true rfl, Nat.le_of_ble_eq_true rfl⟩ rfl ⟨Nat.zero_le _, Nat.zero_le _⟩ rfl (Nat.le_of_ble_eq_true rfl) dX9_readSome_50 (fun H locs hw => ?_)
      refine r_istore0 C hl [(3, .int u6.1), (0, .ref (ad 99)), (1, .int x1), (2, .int v2)] (by decide) rfl dX9_readSome_53 (fun ls hl => ?_)
      refine r_aload0 C hl 1 rfl dX9_readSome_54 ?_
      refine r_get C hw _ (gx_h dO_o) 31 fl_X9_84 rfl dX9_readSome_55 ?_
      refine lv_if_ne (tgt := 75) C.1 C.2.1 dX9_readSome_58 (by decide) (fun hc => ?_) (fun hc => ?_)
      · replace hf := ifn hf hc
        exact hB_75  u6.2 u5.2 v2 u6.1 hf _ _ hw _ (lv_sub hl [1, 2, 3, 0] rfl)
      · replace hf := ifp hf hc
        refine r_iload0 C hl 2 rfl dX9_readSome_61 ?_
        refine r_iload0 C hl 0 rfl dX9_readSome_62 ?_
        refine lv_iadd C.1 C.2.1 dX9_readSome_63 ?_
        refine lv_bipush (v := 16) C.1 C.2.1 dX9_readSome_64 (by decide) ?_
        refine lv_icmp_le (tgt := 75) C.1 C.2.1 dX9_readSome_66 (by decide) (fun hc => ?_) (fun hc => ?_)
        · replace hf := ifp hf hc
          exact hB_75  u6.2 u5.2 v2 u6.1 hf _ _ hw _ (lv_sub hl [1, 2, 3, 0] rfl)
        · replace hf := ifn hf hc
          refine r_aload0 C hl 1 rfl dX9_readSome_69 ?_
          refine lv_bipush (v := 6) C.1 C.2.1 dX9_readSome_70 (by decide) ?_
          obtain ⟨u8, e8, hf⟩ := bx hf
          refine r_callVv (ws' := (dO G ad u8 u5.2 ++ [])) (As := [.int 6]) (rest := []) C hw hl.1 kX9_flaw ml_X9_131 (c_X9_flaw l G ad _ u6.2 u5.2 6 u8 e8) (CutX.take dO_f CutX.none) _ (gx_h dO_o) rfl ⟨rfl, rfl⟩ ⟨Nat.le_of_ble_eq_true rfl, Nat.le_of_ble_eq_true rfl⟩ rfl ⟨Nat.zero_le _, Nat.zero_le _⟩ rfl (Nat.le_of_ble_eq_true rfl) dX9_readSome_72 (fun H locs hw => ?_)
          exact hB_75  u8 u5.2 v2 u6.1 hf _ _ hw _ (lv_sub hl [1, 2, 3, 0] rfl)
  unfold f_X9_readSome at hf
  refine r_aload0 C hl 0 rfl dX9_readSome_0 ?_
  refine lv_iconst (v := 0) C.1 C.2.1 dX9_readSome_1 (by decide) ?_
  refine lv_bipush (v := 99) C.1 C.2.1 dX9_readSome_2 (by decide) ?_
  obtain ⟨u1, e1, hf⟩ := bx hf
  refine r_callVi (ws' := (dO G ad u1.2 dw ++ [])) (As := [.int 0, .int 99]) (rest := []) C hw hl.1 kX9_wholeAt ml_X9_134 (c_X9_wholeAt l G ad _ d_ad dw 0 99 u1 e1) (CutX.take dO_f CutX.none) _ (gx_h dO_o) rfl ⟨rfl, rfl⟩ ⟨Nat.le_of_ble_eq_true rfl, Nat.le_of_ble_eq_true rfl⟩ rfl ⟨Nat.zero_le _, Nat.zero_le _⟩ rfl (Nat.le_of_ble_eq_true rfl) dX9_readSome_4 (fun H locs hw => ?_)
  refine r_istore0 C hl [(2, .int u1.1), (0, .ref (ad 99)), (1, .int x1)] (by decide) rfl dX9_readSome_7 (fun ls hl => ?_)
  refine r_aload0 C hl 1 rfl dX9_readSome_8 ?_
  refine r_get C hw _ (gx_h dO_o) 31 fl_X9_84 rfl dX9_readSome_9 ?_
  refine lv_if_ne (tgt := 27) C.1 C.2.1 dX9_readSome_12 (by decide) (fun hc => ?_) (fun hc => ?_)
  · replace hf := ifn hf hc
    exact hB_27  u1.2 dw u1.1 hf _ _ hw _ (lv_sub hl [1, 2, 0] rfl)
  · replace hf := ifp hf hc
    refine r_iload0 C hl 2 rfl dX9_readSome_15 ?_
    refine lv_bipush (v := 16) C.1 C.2.1 dX9_readSome_16 (by decide) ?_
    refine lv_icmp_ne (tgt := 27) C.1 C.2.1 dX9_readSome_18 (by decide) (fun hc => ?_) (fun hc => ?_)
    · replace hf := ifn hf hc
      exact hB_27  u1.2 dw u1.1 hf _ _ hw _ (lv_sub hl [1, 2, 0] rfl)
    · replace hf := ifp hf hc
      refine r_aload0 C hl 1 rfl dX9_readSome_21 ?_
      refine lv_bipush (v := 6) C.1 C.2.1 dX9_readSome_22 (by decide) ?_
      obtain ⟨u9, e9, hf⟩ := bx hf
      refine r_callVv (ws' := (dO G ad u9 dw ++ [])) (As := [.int 6]) (rest := []) C hw hl.1 kX9_flaw ml_X9_131 (c_X9_flaw l G ad _ u1.2 dw 6 u9 e9) (CutX.take dO_f CutX.none) _ (gx_h dO_o) rfl ⟨rfl, rfl⟩ ⟨Nat.le_of_ble_eq_true rfl, Nat.le_of_ble_eq_true rfl⟩ rfl ⟨Nat.zero_le _, Nat.zero_le _⟩ rfl (Nat.le_of_ble_eq_true rfl) dX9_readSome_24 (fun H locs hw => ?_)
      exact hB_27  u9 dw u1.1 hf _ _ hw _ (lv_sub hl [1, 2, 0] rfl)
set_option maxHeartbeats 4000000 in
set_option maxRecDepth 100000 in
theorem c_X9_readOp (l : Launch) (G : GG) (ad : Nat → Nat) (sz : Nat) (d_ad : Pic) (dw : Int64) (x1 : Int32) (out : Pic × Int64) (hf : f_X9_readOp d_ad dw x1 = some out) : Met l yX9_readOp (.code yX9_readOp cX9_readOp 4 none :: BT) ({ frames := 4, cells := 0, slots := 0, locals := 86 }) (va_Pc [.ref (ad 99), .int x1] (PreW G sz (dO G ad d_ad dw ++ []))) (Don G (va_A (dO G ad d_ad dw ++ []) sz) (dO G ad out.1 out.2 ++ [])) 0 0 (va_A (dO G ad d_ad dw ++ []) sz) := by
  refine Met.into (by decide) (Nat.le_of_ble_eq_true rfl) ?_
  intro p e s m below meth c C hsz ls hl hw
  have hl : lv_has ls 4 [(0, .ref (ad 99)), (1, .int x1)] := hl
  clear hsz
  generalize va_A (dO G ad d_ad dw ++ []) sz = A at hw ⊢
  have hB_46 : ∀ (d_ad : Pic) (dw : Int64) (v2 : Int32) (t0 : Int32), b_X9_readOp_46 x1  d_ad dw v2 t0 = some out → ∀ (H : Heap) (locs : List Loc), Wd G A s H locs (dO G ad d_ad dw ++ []) → ∀ ls : Array Slot, lv_has ls 4 [(0, .ref (ad 99)), (1, .int x1), (2, .int v2)] → W p l e ({ frames := 4, cells := 0, slots := 0, locals := 86 }) s m [.ref (ad 99), .int x1].toArray below meth c H locs 0 0 (MQ below (Don G A (dO G ad out.1 out.2 ++ [])) [.ref (ad 99), .int x1].toArray s 0 0 A) (F0 m 46 ls [.int t0]) := by
    intro d_ad dw v2 t0 hf H locs hw ls hl
    unfold b_X9_readOp_46 at hf
    refine r_istore0 C hl [(3, .int t0), (0, .ref (ad 99)), (1, .int x1), (2, .int v2)] (by decide) rfl dX9_readOp_46 (fun ls hl => ?_)
    refine r_aload0 C hl 1 rfl dX9_readOp_47 ?_
    refine r_get C hw _ (gx_h dO_o) 31 fl_X9_84 rfl dX9_readOp_48 ?_
    refine lv_if_le (tgt := 55) C.1 C.2.1 dX9_readOp_51 (by decide) (fun hc => ?_) (fun hc => ?_)
    · replace hf := ifp hf hc
      refine r_aload0 C hl 1 rfl dX9_readOp_55 ?_
      refine r_get C hw _ (gx_h dO_o) 15 fl_X9_23 rfl dX9_readOp_56 ?_
      refine r_aload0 C hl 1 rfl dX9_readOp_59 ?_
      refine r_get C hw _ (gx_h dO_o) 11 fl_X9_154 rfl dX9_readOp_60 ?_
      refine r_iload0 C hl 2 rfl dX9_readOp_63 ?_
      obtain ⟨d_ad3, e3, hf⟩ := bx hf
      refine r_iast C hw _ (gx_h dO_g15) e3 (dO G ad d_ad3 dw ++ []) (fun h => (sx_h dO_g15 (dO_s15 h))) dX9_readOp_64 (fun H locs hw => ?_)
      refine r_aload0 C hl 1 rfl dX9_readOp_65 ?_
      refine r_get C hw _ (gx_h dO_o) 16 fl_X9_26 rfl dX9_readOp_66 ?_
      refine r_aload0 C hl 1 rfl dX9_readOp_69 ?_
      refine r_get C hw _ (gx_h dO_o) 11 fl_X9_154 rfl dX9_readOp_70 ?_
      refine r_iload0 C hl 3 rfl dX9_readOp_73 ?_
      obtain ⟨d_ad4, e4, hf⟩ := bx hf
      refine r_iast C hw _ (gx_h dO_g16) e4 (dO G ad d_ad4 dw ++ []) (fun h => (sx_h dO_g16 (dO_s16 h))) dX9_readOp_74 (fun H locs hw => ?_)
      refine r_aload0 C hl 1 rfl dX9_readOp_75 ?_
      refine r_get C hw _ (gx_h dO_o) 17 fl_X9_29 rfl dX9_readOp_76 ?_
      refine r_aload0 C hl 1 rfl dX9_readOp_79 ?_
      refine r_get C hw _ (gx_h dO_o) 11 fl_X9_154 rfl dX9_readOp_80 ?_
      refine r_iload0 C hl 0 rfl dX9_readOp_83 ?_
      obtain ⟨d_ad5, e5, hf⟩ := bx hf
      refine r_iast C hw _ (gx_h dO_g17) e5 (dO G ad d_ad5 dw ++ []) (fun h => (sx_h dO_g17 (dO_s17 h))) dX9_readOp_84 (fun H locs hw => ?_)
      refine r_aload0 C hl 1 rfl dX9_readOp_85 ?_
      refine lv_dup C.1 C.2.1 dX9_readOp_86 rfl ?_
      refine r_get C hw _ (gx_h dO_o) 11 fl_X9_154 rfl dX9_readOp_87 ?_
      refine lv_iconst (v := 1) C.1 C.2.1 dX9_readOp_90 (by decide) ?_
      refine lv_iadd C.1 C.2.1 dX9_readOp_91 ?_
      obtain ⟨d_ad6, e6, hf⟩ := bx hf
      refine r_put C hw _ (gx_h dO_o) 11 fp_X9_154 rfl rfl (Nat.le_of_ble_eq_true rfl) (dO G ad d_ad6 dw ++ []) (sx_h dO_o (dO_p11 e6)) dX9_readOp_92 (fun H locs hw => ?_)
      exact fin_v C hw (Option.some.inj hf) (fun o => (dO G ad o.1 o.2 ++ [])) rfl dX9_readOp_95
    · replace hf := ifn hf hc
      exact fin_v C hw (Option.some.inj hf) (fun o => (dO G ad o.1 o.2 ++ [])) rfl dX9_readOp_54
  have hB_15 : ∀ (d_ad : Pic) (dw : Int64) (t0 : Int32), b_X9_readOp_15 x1  d_ad dw t0 = some out → ∀ (H : Heap) (locs : List Loc), Wd G A s H locs (dO G ad d_ad dw ++ []) → ∀ ls : Array Slot, lv_has ls 4 [(0, .ref (ad 99)), (1, .int x1)] → W p l e ({ frames := 4, cells := 0, slots := 0, locals := 86 }) s m [.ref (ad 99), .int x1].toArray below meth c H locs 0 0 (MQ below (Don G A (dO G ad out.1 out.2 ++ [])) [.ref (ad 99), .int x1].toArray s 0 0 A) (F0 m 15 ls [.int t0, .ref (ad 99)]) := by
    intro d_ad dw t0 hf H locs hw ls hl
    unfold b_X9_readOp_15 at hf
    obtain ⟨u1, e1, hf⟩ := bx hf
    refine r_callVv (ws' := (dO G ad u1.1 u1.2 ++ [])) (As := [.int t0]) (rest := []) C hw hl.1 kX9_begins ml_X9_199 (c_X9_begins l G ad _ d_ad dw t0 u1 e1) (CutX.take dO_f CutX.none) _ (gx_h dO_o) rfl ⟨rfl, rfl⟩ ⟨Nat.le_of_ble_eq_true rfl, Nat.le_of_ble_eq_true rfl⟩ rfl ⟨Nat.zero_le _, Nat.zero_le _⟩ rfl (Nat.le_of_ble_eq_true rfl) dX9_readOp_15 (fun H locs hw => ?_)
    refine r_aload0 C hl 0 rfl dX9_readOp_18 ?_
    refine lv_iconst (v := 0) C.1 C.2.1 dX9_readOp_19 (by decide) ?_
    refine lv_bipush (v := 29) C.1 C.2.1 dX9_readOp_20 (by decide) ?_
    obtain ⟨u2, e2, hf⟩ := bx hf
    refine r_callVi (ws' := (dO G ad u2.2.1 u2.2.2 ++ [])) (As := [.int 0, .int 29]) (rest := []) C hw hl.1 kX9_readWhole ml_X9_145 (c_X9_readWhole l G ad _ u1.1 u1.2 0 29 u2 e2) (CutX.take dO_f CutX.none) _ (gx_h dO_o) rfl ⟨rfl, rfl⟩ ⟨Nat.le_of_ble_eq_true rfl, Nat.le_of_ble_eq_true rfl⟩ rfl ⟨Nat.zero_le _, Nat.zero_le _⟩ rfl (Nat.le_of_ble_eq_true rfl) dX9_readOp_22 (fun H locs hw => ?_)
    refine r_istore0 C hl [(2, .int u2.1), (0, .ref (ad 99)), (1, .int x1)] (by decide) rfl dX9_readOp_25 (fun ls hl => ?_)
    refine r_iload0 C hl 2 rfl dX9_readOp_26 ?_
    refine lv_if_ne (tgt := 44) C.1 C.2.1 dX9_readOp_27 (by decide) (fun hc => ?_) (fun hc => ?_)
    · replace hf := ifn hf hc
      refine lv_bipush (v := (-2)) C.1 C.2.1 dX9_readOp_44 (by decide) ?_
      exact hB_46  u2.2.1 u2.2.2 u2.1 (-2) hf _ _ hw _ (lv_sub hl [1, 2, 0] rfl)
    · replace hf := ifp hf hc
      refine r_aload0 C hl 1 rfl dX9_readOp_30 ?_
      refine lv_iconst (v := 0) C.1 C.2.1 dX9_readOp_31 (by decide) ?_
      refine r_aload0 C hl 1 rfl dX9_readOp_32 ?_
      refine r_get C hw _ (gx_h dO_o) 10 fl_X9_151 rfl dX9_readOp_33 ?_
      refine lv_iconst (v := 1) C.1 C.2.1 dX9_readOp_36 (by decide) ?_
      refine lv_isub C.1 C.2.1 dX9_readOp_37 ?_
      obtain ⟨u7, e7, hf⟩ := bx hf
      refine r_callVi (ws' := (dO G ad u7.2.1 u7.2.2 ++ [])) (As := [.int 0, .int ((gS u2.2.1 10) - 1)]) (rest := []) C hw hl.1 kX9_readWhole ml_X9_145 (c_X9_readWhole l G ad _ u2.2.1 u2.2.2 0 ((gS u2.2.1 10) - 1) u7 e7) (CutX.take dO_f CutX.none) _ (gx_h dO_o) rfl ⟨rfl, rfl⟩ ⟨Nat.le_of_ble_eq_true rfl, Nat.le_of_ble_eq_true rfl⟩ rfl ⟨Nat.zero_le _, Nat.zero_le _⟩ rfl (Nat.le_of_ble_eq_true rfl) dX9_readOp_38 (fun H locs hw => ?_)
      refine lv_goto (tgt := 46) C.1 C.2.1 dX9_readOp_41 (by decide) ?_
      exact hB_46  u7.2.1 u7.2.2 u2.1 u7.1 hf _ _ hw _ (lv_sub hl [1, 2, 0] rfl)
  unfold f_X9_readOp at hf
  refine r_aload0 C hl 0 rfl dX9_readOp_0 ?_
  refine r_aload0 C hl 0 rfl dX9_readOp_1 ?_
  refine r_get C hw _ (gx_h dO_o) 11 fl_X9_154 rfl dX9_readOp_2 ?_
  refine lv_bipush (v := 24) C.1 C.2.1 dX9_readOp_5 (by decide) ?_
  refine lv_icmp_ne (tgt := 14) C.1 C.2.1 dX9_readOp_7 (by decide) (fun hc => ?_) (fun hc => ?_)
  · replace hf := ifn hf hc
    refine lv_iconst (v := 0) C.1 C.2.1 dX9_readOp_14 (by decide) ?_
    exact hB_15  d_ad dw 0 hf _ _ hw _ (lv_sub hl [0, 1] rfl)
  · replace hf := ifp hf hc
    refine lv_iconst (v := 1) C.1 C.2.1 dX9_readOp_10 (by decide) ?_
    refine lv_goto (tgt := 15) C.1 C.2.1 dX9_readOp_11 (by decide) ?_
    exact hB_15  d_ad dw 1 hf _ _ hw _ (lv_sub hl [0, 1] rfl)
set_option maxHeartbeats 4000000 in
set_option maxRecDepth 100000 in
theorem c_X9_takesOver (l : Launch) (G : GG) (ad : Nat → Nat) (sz : Nat) (d_ad : Pic) (dw : Int64)  (out : Pic) (hf : f_X9_takesOver d_ad = some out) : Met l yX9_takesOver (.code yX9_takesOver cX9_takesOver 2 none :: BT) ({ frames := 2, cells := 0, slots := 0, locals := 43 }) (va_Pc [.ref (ad 99)] (PreW G sz (dO G ad d_ad dw ++ []))) (Don G (va_A (dO G ad d_ad dw ++ []) sz) (dO G ad out dw ++ [])) 0 0 (va_A (dO G ad d_ad dw ++ []) sz) := by
  refine Met.into (by decide) (Nat.le_of_ble_eq_true rfl) ?_
  intro p e s m below meth c C hsz ls hl hw
  have hl : lv_has ls 2 [(0, .ref (ad 99))] := hl
  clear hsz
  generalize va_A (dO G ad d_ad dw ++ []) sz = A at hw ⊢
  have hB_103 : ∀ (k103 : Pic → Int32 → Option (Pic)) (hk103 : ∀ (d_ad : Pic) (v1 : Int32), k103 d_ad v1 = some out → ∀ (H : Heap) (locs : List Loc), Wd G A s H locs (dO G ad d_ad dw ++ []) → ∀ ls : Array Slot, lv_has ls 2 [(0, .ref (ad 99)), (1, .int v1)] → W p l e ({ frames := 2, cells := 0, slots := 0, locals := 43 }) s m [.ref (ad 99)].toArray below meth c H locs 0 0 (MQ below (Don G A (dO G ad out dw ++ [])) [.ref (ad 99)].toArray s 0 0 A) (F0 m 103 ls [])), ∀ (d_ad : Pic) (v1 : Int32), b_X9_takesOver_103  k103 d_ad v1 = some out → ∀ (H : Heap) (locs : List Loc), Wd G A s H locs (dO G ad d_ad dw ++ []) → ∀ ls : Array Slot, lv_has ls 2 [(0, .ref (ad 99)), (1, .int v1)] → W p l e ({ frames := 2, cells := 0, slots := 0, locals := 43 }) s m [.ref (ad 99)].toArray below meth c H locs 0 0 (MQ below (Don G A (dO G ad out dw ++ [])) [.ref (ad 99)].toArray s 0 0 A) (F0 m 103 ls []) := by
    intro k103 hk103 d_ad v1 hf H locs hw ls hl
    unfold b_X9_takesOver_103 at hf
    refine r_iload0 C hl 1 rfl dX9_takesOver_103 ?_
    refine lv_sipush (v := 160) C.1 C.2.1 dX9_takesOver_104 (by decide) ?_
    refine lv_icmp_ge (tgt := 130) C.1 C.2.1 dX9_takesOver_107 (by decide) (fun hc => ?_) (fun hc => ?_)
    · replace hf := ifp hf hc
      refine r_aload0 C hl 0 rfl dX9_takesOver_130 ?_
      refine lv_iconst (v := 0) C.1 C.2.1 dX9_takesOver_131 (by decide) ?_
      obtain ⟨d_ad8, e8, hf⟩ := bx hf
      refine r_put C hw _ (gx_h dO_o) 23 fp_X9_239 rfl rfl (Nat.le_of_ble_eq_true rfl) (dO G ad d_ad8 dw ++ []) (sx_h dO_o (dO_p23 e8)) dX9_takesOver_132 (fun H locs hw => ?_)
      exact fin_v C hw (Option.some.inj hf) (fun o => (dO G ad o dw ++ [])) rfl dX9_takesOver_135
    · replace hf := ifn hf hc
      refine r_aload0 C hl 0 rfl dX9_takesOver_110 ?_
      refine r_get C hw _ (gx_h dO_o) 20 fl_X9_35 rfl dX9_takesOver_111 ?_
      refine lv_iconst (v := 5) C.1 C.2.1 dX9_takesOver_114 (by decide) ?_
      refine r_iload0 C hl 1 rfl dX9_takesOver_115 ?_
      refine lv_iadd C.1 C.2.1 dX9_takesOver_116 ?_
      refine r_aload0 C hl 0 rfl dX9_takesOver_117 ?_
      refine r_get C hw _ (gx_h dO_o) 18 fl_X9_32 rfl dX9_takesOver_118 ?_
      refine r_iload0 C hl 1 rfl dX9_takesOver_121 ?_
      obtain ⟨v9_, e9, hf⟩ := bx hf
      refine r_iald C hw _ (gx_h dO_g18) e9 dX9_takesOver_122 ?_
      obtain ⟨d_ad10, e10, hf⟩ := bx hf
      refine r_iast C hw _ (gx_h dO_g20) e10 (dO G ad d_ad10 dw ++ []) (fun h => (sx_h dO_g20 (dO_s20 h))) dX9_takesOver_123 (fun H locs hw => ?_)
      refine r_iinc C hl 1 (v1 + 1) [(1, .int (v1 + 1)), (0, .ref (ad 99))] rfl (iinc_e (by decide)) (by decide) rfl dX9_takesOver_124 (fun ls hl => ?_)
      refine lv_goto (tgt := 103) C.1 C.2.1 dX9_takesOver_127 (by decide) ?_
      exact hk103 d_ad10 (v1 + 1) hf _ _ hw _ (lv_sub hl [1, 0] rfl)
  have hL_103 : ∀ n : Nat, ∀ (d_ad : Pic) (v1 : Int32), L_X9_takesOver_103   n d_ad v1 = some out → ∀ (H : Heap) (locs : List Loc), Wd G A s H locs (dO G ad d_ad dw ++ []) → ∀ ls : Array Slot, lv_has ls 2 [(0, .ref (ad 99)), (1, .int v1)] → W p l e ({ frames := 2, cells := 0, slots := 0, locals := 43 }) s m [.ref (ad 99)].toArray below meth c H locs 0 0 (MQ below (Don G A (dO G ad out dw ++ [])) [.ref (ad 99)].toArray s 0 0 A) (F0 m 103 ls []) := by
    intro  n
    induction n with
    | zero => intro d_ad v1 hf; cases hf
    | succ n ih => exact hB_103 _ ih
  have hB_39 : ∀ (k39 : Pic → Int32 → Option (Pic)) (hk39 : ∀ (d_ad : Pic) (v1 : Int32), k39 d_ad v1 = some out → ∀ (H : Heap) (locs : List Loc), Wd G A s H locs (dO G ad d_ad dw ++ []) → ∀ ls : Array Slot, lv_has ls 2 [(0, .ref (ad 99)), (1, .int v1)] → W p l e ({ frames := 2, cells := 0, slots := 0, locals := 43 }) s m [.ref (ad 99)].toArray below meth c H locs 0 0 (MQ below (Don G A (dO G ad out dw ++ [])) [.ref (ad 99)].toArray s 0 0 A) (F0 m 39 ls [])), ∀ (d_ad : Pic) (v1 : Int32), b_X9_takesOver_39  k39 d_ad v1 = some out → ∀ (H : Heap) (locs : List Loc), Wd G A s H locs (dO G ad d_ad dw ++ []) → ∀ ls : Array Slot, lv_has ls 2 [(0, .ref (ad 99)), (1, .int v1)] → W p l e ({ frames := 2, cells := 0, slots := 0, locals := 43 }) s m [.ref (ad 99)].toArray below meth c H locs 0 0 (MQ below (Don G A (dO G ad out dw ++ [])) [.ref (ad 99)].toArray s 0 0 A) (F0 m 39 ls []) := by
    intro k39 hk39 d_ad v1 hf H locs hw ls hl
    unfold b_X9_takesOver_39 at hf
    refine r_iload0 C hl 1 rfl dX9_takesOver_39 ?_
    refine lv_bipush (v := 24) C.1 C.2.1 dX9_takesOver_40 (by decide) ?_
    refine lv_icmp_ge (tgt := 87) C.1 C.2.1 dX9_takesOver_42 (by decide) (fun hc => ?_) (fun hc => ?_)
    · replace hf := ifp hf hc
      refine r_aload0 C hl 0 rfl dX9_takesOver_87 ?_
      obtain ⟨u6, e6, hf⟩ := bx hf
      refine r_callVv (ws' := (dO G ad u6 dw ++ [])) (As := []) (rest := []) C hw hl.1 kX9_clears ml_X9_236 (c_X9_clears l G ad _ d_ad dw u6 e6) (CutX.take dO_f CutX.none) _ (gx_h dO_o) rfl ⟨rfl, rfl⟩ ⟨Nat.le_of_ble_eq_true rfl, Nat.le_of_ble_eq_true rfl⟩ rfl ⟨Nat.zero_le _, Nat.zero_le _⟩ rfl (Nat.le_of_ble_eq_true rfl) dX9_takesOver_88 (fun H locs hw => ?_)
      refine r_aload0 C hl 0 rfl dX9_takesOver_91 ?_
      refine r_get C hw _ (gx_h dO_o) 20 fl_X9_35 rfl dX9_takesOver_92 ?_
      refine lv_iconst (v := 0) C.1 C.2.1 dX9_takesOver_95 (by decide) ?_
      refine r_aload0 C hl 0 rfl dX9_takesOver_96 ?_
      refine r_get C hw _ (gx_h dO_o) 7 fl_X9_148 rfl dX9_takesOver_97 ?_
      obtain ⟨d_ad7, e7, hf⟩ := bx hf
      refine r_iast C hw _ (gx_h dO_g20) e7 (dO G ad d_ad7 dw ++ []) (fun h => (sx_h dO_g20 (dO_s20 h))) dX9_takesOver_100 (fun H locs hw => ?_)
      refine lv_iconst (v := 0) C.1 C.2.1 dX9_takesOver_101 (by decide) ?_
      refine r_istore0 C hl [(1, .int 0), (0, .ref (ad 99))] (by decide) rfl dX9_takesOver_102 (fun ls hl => ?_)
      exact hL_103  FU d_ad7 0 hf _ _ hw _ (lv_sub hl [1, 0] rfl)
    · replace hf := ifn hf hc
      refine r_aload0 C hl 0 rfl dX9_takesOver_45 ?_
      refine r_get C hw _ (gx_h dO_o) 12 fl_X9_13 rfl dX9_takesOver_46 ?_
      refine r_iload0 C hl 1 rfl dX9_takesOver_49 ?_
      refine r_aload0 C hl 0 rfl dX9_takesOver_50 ?_
      refine r_get C hw _ (gx_h dO_o) 15 fl_X9_23 rfl dX9_takesOver_51 ?_
      refine r_iload0 C hl 1 rfl dX9_takesOver_54 ?_
      obtain ⟨v11_, e11, hf⟩ := bx hf
      refine r_iald C hw _ (gx_h dO_g15) e11 dX9_takesOver_55 ?_
      obtain ⟨d_ad12, e12, hf⟩ := bx hf
      refine r_iast C hw _ (gx_h dO_g12) e12 (dO G ad d_ad12 dw ++ []) (fun h => (sx_h dO_g12 (dO_s12 h))) dX9_takesOver_56 (fun H locs hw => ?_)
      refine r_aload0 C hl 0 rfl dX9_takesOver_57 ?_
      refine r_get C hw _ (gx_h dO_o) 13 fl_X9_17 rfl dX9_takesOver_58 ?_
      refine r_iload0 C hl 1 rfl dX9_takesOver_61 ?_
      refine r_aload0 C hl 0 rfl dX9_takesOver_62 ?_
      refine r_get C hw _ (gx_h dO_o) 16 fl_X9_26 rfl dX9_takesOver_63 ?_
      refine r_iload0 C hl 1 rfl dX9_takesOver_66 ?_
      obtain ⟨v13_, e13, hf⟩ := bx hf
      refine r_iald C hw _ (gx_h dO_g16) e13 dX9_takesOver_67 ?_
      obtain ⟨d_ad14, e14, hf⟩ := bx hf
      refine r_iast C hw _ (gx_h dO_g13) e14 (dO G ad d_ad14 dw ++ []) (fun h => (sx_h dO_g13 (dO_s13 h))) dX9_takesOver_68 (fun H locs hw => ?_)
      refine r_aload0 C hl 0 rfl dX9_takesOver_69 ?_
      refine r_get C hw _ (gx_h dO_o) 14 fl_X9_20 rfl dX9_takesOver_70 ?_
      refine r_iload0 C hl 1 rfl dX9_takesOver_73 ?_
      refine r_aload0 C hl 0 rfl dX9_takesOver_74 ?_
      refine r_get C hw _ (gx_h dO_o) 17 fl_X9_29 rfl dX9_takesOver_75 ?_
      refine r_iload0 C hl 1 rfl dX9_takesOver_78 ?_
      obtain ⟨v15_, e15, hf⟩ := bx hf
      refine r_iald C hw _ (gx_h dO_g17) e15 dX9_takesOver_79 ?_
      obtain ⟨d_ad16, e16, hf⟩ := bx hf
      refine r_iast C hw _ (gx_h dO_g14) e16 (dO G ad d_ad16 dw ++ []) (fun h => (sx_h dO_g14 (dO_s14 h))) dX9_takesOver_80 (fun H locs hw => ?_)
      refine r_iinc C hl 1 (v1 + 1) [(1, .int (v1 + 1)), (0, .ref (ad 99))] rfl (iinc_e (by decide)) (by decide) rfl dX9_takesOver_81 (fun ls hl => ?_)
      refine lv_goto (tgt := 39) C.1 C.2.1 dX9_takesOver_84 (by decide) ?_
      exact hk39 d_ad16 (v1 + 1) hf _ _ hw _ (lv_sub hl [1, 0] rfl)
  have hL_39 : ∀ n : Nat, ∀ (d_ad : Pic) (v1 : Int32), L_X9_takesOver_39   n d_ad v1 = some out → ∀ (H : Heap) (locs : List Loc), Wd G A s H locs (dO G ad d_ad dw ++ []) → ∀ ls : Array Slot, lv_has ls 2 [(0, .ref (ad 99)), (1, .int v1)] → W p l e ({ frames := 2, cells := 0, slots := 0, locals := 43 }) s m [.ref (ad 99)].toArray below meth c H locs 0 0 (MQ below (Don G A (dO G ad out dw ++ [])) [.ref (ad 99)].toArray s 0 0 A) (F0 m 39 ls []) := by
    intro  n
    induction n with
    | zero => intro d_ad v1 hf; cases hf
    | succ n ih => exact hB_39 _ ih
  unfold f_X9_takesOver at hf
  refine r_aload0 C hl 0 rfl dX9_takesOver_0 ?_
  refine lv_iconst (v := 1) C.1 C.2.1 dX9_takesOver_1 (by decide) ?_
  obtain ⟨d_ad1, e1, hf⟩ := bx hf
  refine r_put C hw _ (gx_h dO_o) 19 fp_X9_225 (by decide) rfl (Nat.le_of_ble_eq_true rfl) (dO G ad d_ad1 dw ++ []) (sx_h dO_o (dO_p19 e1)) dX9_takesOver_2 (fun H locs hw => ?_)
  refine r_aload0 C hl 0 rfl dX9_takesOver_5 ?_
  refine r_aload0 C hl 0 rfl dX9_takesOver_6 ?_
  refine r_get C hw _ (gx_h dO_o) 8 fl_X9_193 rfl dX9_takesOver_7 ?_
  obtain ⟨d_ad2, e2, hf⟩ := bx hf
  refine r_put C hw _ (gx_h dO_o) 3 fp_X9_229 rfl rfl (Nat.le_of_ble_eq_true rfl) (dO G ad d_ad2 dw ++ []) (sx_h dO_o (dO_p3 e2)) dX9_takesOver_10 (fun H locs hw => ?_)
  refine r_aload0 C hl 0 rfl dX9_takesOver_13 ?_
  refine r_aload0 C hl 0 rfl dX9_takesOver_14 ?_
  refine r_get C hw _ (gx_h dO_o) 9 fl_X9_196 rfl dX9_takesOver_15 ?_
  obtain ⟨d_ad3, e3, hf⟩ := bx hf
  refine r_put C hw _ (gx_h dO_o) 4 fp_X9_231 rfl rfl (Nat.le_of_ble_eq_true rfl) (dO G ad d_ad3 dw ++ []) (sx_h dO_o (dO_p4 e3)) dX9_takesOver_18 (fun H locs hw => ?_)
  refine r_aload0 C hl 0 rfl dX9_takesOver_21 ?_
  refine r_aload0 C hl 0 rfl dX9_takesOver_22 ?_
  refine r_get C hw _ (gx_h dO_o) 10 fl_X9_151 rfl dX9_takesOver_23 ?_
  obtain ⟨d_ad4, e4, hf⟩ := bx hf
  refine r_put C hw _ (gx_h dO_o) 5 fp_X9_219 rfl rfl (Nat.le_of_ble_eq_true rfl) (dO G ad d_ad4 dw ++ []) (sx_h dO_o (dO_p5 e4)) dX9_takesOver_26 (fun H locs hw => ?_)
  refine r_aload0 C hl 0 rfl dX9_takesOver_29 ?_
  refine r_aload0 C hl 0 rfl dX9_takesOver_30 ?_
  refine r_get C hw _ (gx_h dO_o) 11 fl_X9_154 rfl dX9_takesOver_31 ?_
  obtain ⟨d_ad5, e5, hf⟩ := bx hf
  refine r_put C hw _ (gx_h dO_o) 6 fp_X9_233 rfl rfl (Nat.le_of_ble_eq_true rfl) (dO G ad d_ad5 dw ++ []) (sx_h dO_o (dO_p6 e5)) dX9_takesOver_34 (fun H locs hw => ?_)
  refine lv_iconst (v := 0) C.1 C.2.1 dX9_takesOver_37 (by decide) ?_
  refine r_istore0 C hl [(1, .int 0), (0, .ref (ad 99))] (by decide) rfl dX9_takesOver_38 (fun ls hl => ?_)
  exact hL_39  FU d_ad5 0 hf _ _ hw _ (lv_sub hl [1, 0] rfl)
