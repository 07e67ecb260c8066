set_option maxHeartbeats 4000000 in
set_option maxRecDepth 100000 in
theorem c_X9_takes (l : Launch) (G : GG) (ad : Nat → Nat) (sz : Nat) (d_ad : Pic) (dw : Int64) (x1 : Int32) (out : Pic) (hf : f_X9_takes d_ad x1 = some out) : Met l yX9_takes (.code yX9_takes cX9_takes 3 none :: BT) ({ frames := 0, cells := 0, slots := 0, locals := 0 }) (va_Pc [.ref (ad 99), .int x1] (PreW G sz (dO G ad d_ad dw ++ []))) (Don G (va_A (dO G ad d_ad dw ++ []) sz) (dO G ad out dw ++ [])) 0 0 (va_A (dO G ad d_ad dw ++ []) sz) := by
  refine Met.into (by decide) (Nat.le_of_ble_eq_true rfl) ?_
  intro p e s m below meth c C hsz ls hl hw
  have hl : lv_has ls 3 [(0, .ref (ad 99)), (1, .int x1)] := hl
  clear hsz
  generalize va_A (dO G ad d_ad dw ++ []) sz = A at hw ⊢
  have hB_2 : ∀ (k2 : Pic → Int32 → Option (Pic)) (hk2 : ∀ (d_ad : Pic) (v2 : Int32), k2 d_ad v2 = some out → ∀ (H : Heap) (locs : List Loc), Wd G A s H locs (dO G ad d_ad dw ++ []) → ∀ ls : Array Slot, lv_has ls 3 [(0, .ref (ad 99)), (1, .int x1), (2, .int v2)] → W p l e ({ frames := 0, cells := 0, slots := 0, locals := 0 }) s m [.ref (ad 99), .int x1].toArray below meth c H locs 0 0 (MQ below (Don G A (dO G ad out dw ++ [])) [.ref (ad 99), .int x1].toArray s 0 0 A) (F0 m 2 ls [])), ∀ (d_ad : Pic) (v2 : Int32), b_X9_takes_2 x1 k2 d_ad v2 = some out → ∀ (H : Heap) (locs : List Loc), Wd G A s H locs (dO G ad d_ad dw ++ []) → ∀ ls : Array Slot, lv_has ls 3 [(0, .ref (ad 99)), (1, .int x1), (2, .int v2)] → W p l e ({ frames := 0, cells := 0, slots := 0, locals := 0 }) s m [.ref (ad 99), .int x1].toArray below meth c H locs 0 0 (MQ below (Don G A (dO G ad out dw ++ [])) [.ref (ad 99), .int x1].toArray s 0 0 A) (F0 m 2 ls []) := by
    intro k2 hk2 d_ad v2 hf H locs hw ls hl
    unfold b_X9_takes_2 at hf
    refine r_iload0 C hl 2 rfl dX9_takes_2 ?_
    refine lv_bipush (v := 16) C.1 C.2.1 dX9_takes_3 (by decide) ?_
    refine lv_icmp_ge (tgt := 28) C.1 C.2.1 dX9_takes_5 (by decide) (fun hc => ?_) (fun hc => ?_)
    · replace hf := ifp hf hc
      exact fin_v C hw (Option.some.inj hf) (fun o => (dO G ad o dw ++ [])) rfl dX9_takes_28
    · replace hf := ifn hf hc
      refine r_aload0 C hl 0 rfl dX9_takes_8 ?_
      refine r_get C hw _ (gx_h dO_o) 33 fl_X9_48 rfl dX9_takes_9 ?_
      refine r_iload0 C hl 2 rfl dX9_takes_12 ?_
      refine r_aload0 C hl 0 rfl dX9_takes_13 ?_
      refine r_get C hw _ (gx_h dO_o) 20 fl_X9_35 rfl dX9_takes_14 ?_
      refine r_iload0 C hl 1 rfl dX9_takes_17 ?_
      refine r_iload0 C hl 2 rfl dX9_takes_18 ?_
      refine lv_iadd C.1 C.2.1 dX9_takes_19 ?_
      obtain ⟨v1_, e1, hf⟩ := bx hf
      refine r_iald C hw _ (gx_h dO_g20) e1 dX9_takes_20 ?_
      obtain ⟨d_ad2, e2, hf⟩ := bx hf
      refine r_iast C hw _ (gx_h dO_g33) e2 (dO G ad d_ad2 dw ++ []) (fun h => (sx_h dO_g33 (dO_s33 h))) dX9_takes_21 (fun H locs hw => ?_)
      refine r_iinc C hl 2 (v2 + 1) [(2, .int (v2 + 1)), (0, .ref (ad 99)), (1, .int x1)] rfl (iinc_e (by decide)) (by decide) rfl dX9_takes_22 (fun ls hl => ?_)
      refine lv_goto (tgt := 2) C.1 C.2.1 dX9_takes_25 (by decide) ?_
      exact hk2 d_ad2 (v2 + 1) hf _ _ hw _ (lv_sub hl [1, 2, 0] rfl)
  have hL_2 : ∀ n : Nat, ∀ (d_ad : Pic) (v2 : Int32), L_X9_takes_2 x1  n d_ad v2 = some out → ∀ (H : Heap) (locs : List Loc), Wd G A s H locs (dO G ad d_ad dw ++ []) → ∀ ls : Array Slot, lv_has ls 3 [(0, .ref (ad 99)), (1, .int x1), (2, .int v2)] → W p l e ({ frames := 0, cells := 0, slots := 0, locals := 0 }) s m [.ref (ad 99), .int x1].toArray below meth c H locs 0 0 (MQ below (Don G A (dO G ad out dw ++ [])) [.ref (ad 99), .int x1].toArray s 0 0 A) (F0 m 2 ls []) := by
    intro  n
    induction n with
    | zero => intro d_ad v2 hf; cases hf
    | succ n ih => exact hB_2 _ ih
  unfold f_X9_takes at hf
  refine lv_iconst (v := 0) C.1 C.2.1 dX9_takes_0 (by decide) ?_
  refine r_istore0 C hl [(2, .int 0), (0, .ref (ad 99)), (1, .int x1)] (by decide) rfl dX9_takes_1 (fun ls hl => ?_)
  exact hL_2  FU d_ad 0 hf _ _ hw _ (lv_sub hl [1, 2, 0] rfl)
set_option maxHeartbeats 4000000 in
set_option maxRecDepth 100000 in
theorem c_X9_runAt (l : Launch) (G : GG) (ad : Nat → Nat) (sz : Nat) (d_ad : Pic) (dw : Int64) (x1 : Int32) (out : Int32) (hf : f_X9_runAt d_ad x1 = some out) : Met l yX9_runAt (.code yX9_runAt cX9_runAt 3 (some .int) :: BT) ({ frames := 0, cells := 0, slots := 0, locals := 0 }) (va_Pc [.ref (ad 99), .int x1] (PreW G sz (dO G ad d_ad dw ++ []))) (Ans G out (va_A (dO G ad d_ad dw ++ []) sz) (dO G ad d_ad dw ++ [])) 0 0 (va_A (dO G ad d_ad dw ++ []) sz) := by
  refine Met.into (by decide) (Nat.le_of_ble_eq_true rfl) ?_
  intro p e s m below meth c C hsz ls hl hw
  have hl : lv_has ls 3 [(0, .ref (ad 99)), (1, .int x1)] := hl
  clear hsz
  generalize va_A (dO G ad d_ad dw ++ []) sz = A at hw ⊢
  have hB_2 : ∀ (k2 : Int32 → Option (Int32)) (hk2 : ∀ (v2 : Int32), k2 v2 = some out → ∀ (H : Heap) (locs : List Loc), Wd G A s H locs (dO G ad d_ad dw ++ []) → ∀ ls : Array Slot, lv_has ls 3 [(0, .ref (ad 99)), (1, .int x1), (2, .int v2)] → W p l e ({ frames := 0, cells := 0, slots := 0, locals := 0 }) s m [.ref (ad 99), .int x1].toArray below meth c H locs 0 0 (MQ below (Ans G out A (dO G ad d_ad dw ++ [])) [.ref (ad 99), .int x1].toArray s 0 0 A) (F0 m 2 ls [])), ∀ (v2 : Int32), b_X9_runAt_2 d_ad x1 k2 v2 = some out → ∀ (H : Heap) (locs : List Loc), Wd G A s H locs (dO G ad d_ad dw ++ []) → ∀ ls : Array Slot, lv_has ls 3 [(0, .ref (ad 99)), (1, .int x1), (2, .int v2)] → W p l e ({ frames := 0, cells := 0, slots := 0, locals := 0 }) s m [.ref (ad 99), .int x1].toArray below meth c H locs 0 0 (MQ below (Ans G out A (dO G ad d_ad dw ++ [])) [.ref (ad 99), .int x1].toArray s 0 0 A) (F0 m 2 ls []) := by
    intro k2 hk2 v2 hf H locs hw ls hl
    unfold b_X9_runAt_2 at hf
    refine r_iload0 C hl 1 rfl dX9_runAt_2 ?_
    refine r_iload0 C hl 2 rfl dX9_runAt_3 ?_
    refine lv_iadd C.1 C.2.1 dX9_runAt_4 ?_
    refine lv_bipush (v := 16) C.1 C.2.1 dX9_runAt_5 (by decide) ?_
    refine lv_icmp_ge (tgt := 33) C.1 C.2.1 dX9_runAt_7 (by decide) (fun hc => ?_) (fun hc => ?_)
    · replace hf := ifp hf hc
      refine r_iload0 C hl 2 rfl dX9_runAt_33 ?_
      exact fin_i C hw (Option.some.inj hf) (fun o => o) (fun o => (dO G ad d_ad dw ++ [])) rfl rfl dX9_runAt_34
    · replace hf := ifn hf hc
      refine r_aload0 C hl 0 rfl dX9_runAt_10 ?_
      refine r_get C hw _ (gx_h dO_o) 33 fl_X9_48 rfl dX9_runAt_11 ?_
      refine r_iload0 C hl 1 rfl dX9_runAt_14 ?_
      refine r_iload0 C hl 2 rfl dX9_runAt_15 ?_
      refine lv_iadd C.1 C.2.1 dX9_runAt_16 ?_
      obtain ⟨v1_, e1, hf⟩ := bx hf
      refine r_iald C hw _ (gx_h dO_g33) e1 dX9_runAt_17 ?_
      refine r_aload0 C hl 0 rfl dX9_runAt_18 ?_
      refine r_get C hw _ (gx_h dO_o) 33 fl_X9_48 rfl dX9_runAt_19 ?_
      refine r_iload0 C hl 1 rfl dX9_runAt_22 ?_
      obtain ⟨v2_, e2, hf⟩ := bx hf
      refine r_iald C hw _ (gx_h dO_g33) e2 dX9_runAt_23 ?_
      refine lv_icmp_ne (tgt := 33) C.1 C.2.1 dX9_runAt_24 (by decide) (fun hc => ?_) (fun hc => ?_)
      · replace hf := ifn hf hc
        refine r_iload0 C hl 2 rfl dX9_runAt_33 ?_
        exact fin_i C hw (Option.some.inj hf) (fun o => o) (fun o => (dO G ad d_ad dw ++ [])) rfl rfl dX9_runAt_34
      · replace hf := ifp hf hc
        refine r_iinc C hl 2 (v2 + 1) [(2, .int (v2 + 1)), (0, .ref (ad 99)), (1, .int x1)] rfl (iinc_e (by decide)) (by decide) rfl dX9_runAt_27 (fun ls hl => ?_)
        refine lv_goto (tgt := 2) C.1 C.2.1 dX9_runAt_30 (by decide) ?_
        exact hk2 (v2 + 1) hf _ _ hw _ (lv_sub hl [1, 2, 0] rfl)
  have hL_2 : ∀ n : Nat, ∀ (v2 : Int32), L_X9_runAt_2 d_ad x1  n v2 = some out → ∀ (H : Heap) (locs : List Loc), Wd G A s H locs (dO G ad d_ad dw ++ []) → ∀ ls : Array Slot, lv_has ls 3 [(0, .ref (ad 99)), (1, .int x1), (2, .int v2)] → W p l e ({ frames := 0, cells := 0, slots := 0, locals := 0 }) s m [.ref (ad 99), .int x1].toArray below meth c H locs 0 0 (MQ below (Ans G out A (dO G ad d_ad dw ++ [])) [.ref (ad 99), .int x1].toArray s 0 0 A) (F0 m 2 ls []) := by
    intro  n
    induction n with
    | zero => intro v2 hf; cases hf
    | succ n ih => exact hB_2 _ ih
  unfold f_X9_runAt at hf
  refine lv_iconst (v := 1) C.1 C.2.1 dX9_runAt_0 (by decide) ?_
  refine r_istore0 C hl [(2, .int 1), (0, .ref (ad 99)), (1, .int x1)] (by decide) rfl dX9_runAt_1 (fun ls hl => ?_)
  exact hL_2  FU 1 hf _ _ hw _ (lv_sub hl [1, 2, 0] rfl)
set_option maxHeartbeats 4000000 in
set_option maxRecDepth 100000 in
theorem c_X9_copyAt (l : Launch) (G : GG) (ad : Nat → Nat) (sz : Nat) (d_ad : Pic) (dw : Int64) (x1 : Int32) (x2 : Int32) (out : Int32) (hf : f_X9_copyAt d_ad x1 x2 = some out) : Met l yX9_copyAt (.code yX9_copyAt cX9_copyAt 4 (some .int) :: BT) ({ frames := 0, cells := 0, slots := 0, locals := 0 }) (va_Pc [.ref (ad 99), .int x1, .int x2] (PreW G sz (dO G ad d_ad dw ++ []))) (Ans G out (va_A (dO G ad d_ad dw ++ []) sz) (dO G ad d_ad dw ++ [])) 0 0 (va_A (dO G ad d_ad dw ++ []) sz) := by
  refine Met.into (by decide) (Nat.le_of_ble_eq_true rfl) ?_
  intro p e s m below meth c C hsz ls hl hw
  have hl : lv_has ls 4 [(0, .ref (ad 99)), (1, .int x1), (2, .int x2)] := hl
  clear hsz
  generalize va_A (dO G ad d_ad dw ++ []) sz = A at hw ⊢
  have hB_2 : ∀ (k2 : Int32 → Option (Int32)) (hk2 : ∀ (v3 : Int32), k2 v3 = some out → ∀ (H : Heap) (locs : List Loc), Wd G A s H locs (dO G ad d_ad dw ++ []) → ∀ ls : Array Slot, lv_has ls 4 [(0, .ref (ad 99)), (1, .int x1), (2, .int x2), (3, .int v3)] → W p l e ({ frames := 0, cells := 0, slots := 0, locals := 0 }) s m [.ref (ad 99), .int x1, .int x2].toArray below meth c H locs 0 0 (MQ below (Ans G out A (dO G ad d_ad dw ++ [])) [.ref (ad 99), .int x1, .int x2].toArray s 0 0 A) (F0 m 2 ls [])), ∀ (v3 : Int32), b_X9_copyAt_2 d_ad x1 x2 k2 v3 = some out → ∀ (H : Heap) (locs : List Loc), Wd G A s H locs (dO G ad d_ad dw ++ []) → ∀ ls : Array Slot, lv_has ls 4 [(0, .ref (ad 99)), (1, .int x1), (2, .int x2), (3, .int v3)] → W p l e ({ frames := 0, cells := 0, slots := 0, locals := 0 }) s m [.ref (ad 99), .int x1, .int x2].toArray below meth c H locs 0 0 (MQ below (Ans G out A (dO G ad d_ad dw ++ [])) [.ref (ad 99), .int x1, .int x2].toArray s 0 0 A) (F0 m 2 ls []) := by
    intro k2 hk2 v3 hf H locs hw ls hl
    unfold b_X9_copyAt_2 at hf
    refine r_iload0 C hl 3 rfl dX9_copyAt_2 ?_
    refine lv_bipush (v := 8) C.1 C.2.1 dX9_copyAt_3 (by decide) ?_
    refine lv_icmp_ge (tgt := 48) C.1 C.2.1 dX9_copyAt_5 (by decide) (fun hc => ?_) (fun hc => ?_)
    · replace hf := ifp hf hc
      refine r_iload0 C hl 3 rfl dX9_copyAt_48 ?_
      exact fin_i C hw (Option.some.inj hf) (fun o => o) (fun o => (dO G ad d_ad dw ++ [])) rfl rfl dX9_copyAt_49
    · replace hf := ifn hf hc
      refine r_iload0 C hl 1 rfl dX9_copyAt_8 ?_
      refine r_iload0 C hl 2 rfl dX9_copyAt_9 ?_
      refine lv_icmp_lt (tgt := 48) C.1 C.2.1 dX9_copyAt_10 (by decide) (fun hc => ?_) (fun hc => ?_)
      · replace hf := ifp hf hc
        refine r_iload0 C hl 3 rfl dX9_copyAt_48 ?_
        exact fin_i C hw (Option.some.inj hf) (fun o => o) (fun o => (dO G ad d_ad dw ++ [])) rfl rfl dX9_copyAt_49
      · replace hf := ifn hf hc
        refine r_iload0 C hl 1 rfl dX9_copyAt_13 ?_
        refine r_iload0 C hl 3 rfl dX9_copyAt_14 ?_
        refine lv_iadd C.1 C.2.1 dX9_copyAt_15 ?_
        refine lv_bipush (v := 16) C.1 C.2.1 dX9_copyAt_16 (by decide) ?_
        refine lv_icmp_ge (tgt := 48) C.1 C.2.1 dX9_copyAt_18 (by decide) (fun hc => ?_) (fun hc => ?_)
        · replace hf := ifp hf hc
          refine r_iload0 C hl 3 rfl dX9_copyAt_48 ?_
          exact fin_i C hw (Option.some.inj hf) (fun o => o) (fun o => (dO G ad d_ad dw ++ [])) rfl rfl dX9_copyAt_49
        · replace hf := ifn hf hc
          refine r_aload0 C hl 0 rfl dX9_copyAt_21 ?_
          refine r_get C hw _ (gx_h dO_o) 33 fl_X9_48 rfl dX9_copyAt_22 ?_
          refine r_iload0 C hl 1 rfl dX9_copyAt_25 ?_
          refine r_iload0 C hl 3 rfl dX9_copyAt_26 ?_
          refine lv_iadd C.1 C.2.1 dX9_copyAt_27 ?_
          obtain ⟨v1_, e1, hf⟩ := bx hf
          refine r_iald C hw _ (gx_h dO_g33) e1 dX9_copyAt_28 ?_
          refine r_aload0 C hl 0 rfl dX9_copyAt_29 ?_
          refine r_get C hw _ (gx_h dO_o) 33 fl_X9_48 rfl dX9_copyAt_30 ?_
          refine r_iload0 C hl 1 rfl dX9_copyAt_33 ?_
          refine r_iload0 C hl 3 rfl dX9_copyAt_34 ?_
          refine lv_iadd C.1 C.2.1 dX9_copyAt_35 ?_
          refine r_iload0 C hl 2 rfl dX9_copyAt_36 ?_
          refine lv_isub C.1 C.2.1 dX9_copyAt_37 ?_
          obtain ⟨v2_, e2, hf⟩ := bx hf
          refine r_iald C hw _ (gx_h dO_g33) e2 dX9_copyAt_38 ?_
          refine lv_icmp_ne (tgt := 48) C.1 C.2.1 dX9_copyAt_39 (by decide) (fun hc => ?_) (fun hc => ?_)
          · replace hf := ifn hf hc
            refine r_iload0 C hl 3 rfl dX9_copyAt_48 ?_
            exact fin_i C hw (Option.some.inj hf) (fun o => o) (fun o => (dO G ad d_ad dw ++ [])) rfl rfl dX9_copyAt_49
          · replace hf := ifp hf hc
            refine r_iinc C hl 3 (v3 + 1) [(3, .int (v3 + 1)), (0, .ref (ad 99)), (1, .int x1), (2, .int x2)] rfl (iinc_e (by decide)) (by decide) rfl dX9_copyAt_42 (fun ls hl => ?_)
            refine lv_goto (tgt := 2) C.1 C.2.1 dX9_copyAt_45 (by decide) ?_
            exact hk2 (v3 + 1) hf _ _ hw _ (lv_sub hl [1, 2, 3, 0] rfl)
  have hL_2 : ∀ n : Nat, ∀ (v3 : Int32), L_X9_copyAt_2 d_ad x1 x2  n v3 = some out → ∀ (H : Heap) (locs : List Loc), Wd G A s H locs (dO G ad d_ad dw ++ []) → ∀ ls : Array Slot, lv_has ls 4 [(0, .ref (ad 99)), (1, .int x1), (2, .int x2), (3, .int v3)] → W p l e ({ frames := 0, cells := 0, slots := 0, locals := 0 }) s m [.ref (ad 99), .int x1, .int x2].toArray below meth c H locs 0 0 (MQ below (Ans G out A (dO G ad d_ad dw ++ [])) [.ref (ad 99), .int x1, .int x2].toArray s 0 0 A) (F0 m 2 ls []) := by
    intro  n
    induction n with
    | zero => intro v3 hf; cases hf
    | succ n ih => exact hB_2 _ ih
  unfold f_X9_copyAt at hf
  refine lv_iconst (v := 0) C.1 C.2.1 dX9_copyAt_0 (by decide) ?_
  refine r_istore0 C hl [(3, .int 0), (0, .ref (ad 99)), (1, .int x1), (2, .int x2)] (by decide) rfl dX9_copyAt_1 (fun ls hl => ?_)
  exact hL_2  FU 0 hf _ _ hw _ (lv_sub hl [1, 2, 3, 0] rfl)
set_option maxHeartbeats 4000000 in
set_option maxRecDepth 100000 in
theorem c_X9_tries (l : Launch) (G : GG) (ad : Nat → Nat) (sz : Nat) (d_ad : Pic) (dw : Int64) (x1 : Int32) (x2 : Int32) (x3 : Int32) (out : Pic) (hf : f_X9_tries d_ad x1 x2 x3 = some out) : Met l yX9_tries (.code yX9_tries cX9_tries 6 none :: BT) ({ frames := 0, cells := 0, slots := 0, locals := 0 }) (va_Pc [.ref (ad 99), .int x1, .int x2, .int x3] (PreW G sz (dO G ad d_ad dw ++ []))) (Don G (va_A (dO G ad d_ad dw ++ []) sz) (dO G ad out dw ++ [])) 0 0 (va_A (dO G ad d_ad dw ++ []) sz) := by
  refine Met.into (by decide) (Nat.le_of_ble_eq_true rfl) ?_
  intro p e s m below meth c C hsz ls hl hw
  have hl : lv_has ls 6 [(0, .ref (ad 99)), (1, .int x1), (2, .int x2), (3, .int x3)] := hl
  clear hsz
  generalize va_A (dO G ad d_ad dw ++ []) sz = A at hw ⊢
  have hB_58 : ∀ (d_ad : Pic) (v4 : Int32) (v5 : Int32), b_X9_tries_58 x1 x2 x3  d_ad v4 v5 = some out → ∀ (H : Heap) (locs : List Loc), Wd G A s H locs (dO G ad d_ad dw ++ []) → ∀ ls : Array Slot, lv_has ls 6 [(0, .ref (ad 99)), (1, .int x1), (4, .int v4), (5, .int v5)] → W p l e ({ frames := 0, cells := 0, slots := 0, locals := 0 }) s m [.ref (ad 99), .int x1, .int x2, .int x3].toArray below meth c H locs 0 0 (MQ below (Don G A (dO G ad out dw ++ [])) [.ref (ad 99), .int x1, .int x2, .int x3].toArray s 0 0 A) (F0 m 58 ls []) := by
    intro d_ad v4 v5 hf H locs hw ls hl
    unfold b_X9_tries_58 at hf
    refine r_aload0 C hl 0 rfl dX9_tries_58 ?_
    refine r_get C hw _ (gx_h dO_o) 34 fl_X9_51 rfl dX9_tries_59 ?_
    refine r_iload0 C hl 1 rfl dX9_tries_62 ?_
    refine r_iload C hl 2 rfl dX9_tries_63 ?_
    obtain ⟨d_ad5, e5, hf⟩ := bx hf
    refine r_iast C hw _ (gx_h dO_g34) e5 (dO G ad d_ad5 dw ++ []) (fun h => (sx_h dO_g34 (dO_s34 h))) dX9_tries_65 (fun H locs hw => ?_)
    refine r_aload0 C hl 0 rfl dX9_tries_66 ?_
    refine r_get C hw _ (gx_h dO_o) 35 fl_X9_54 rfl dX9_tries_67 ?_
    refine r_iload0 C hl 1 rfl dX9_tries_70 ?_
    refine r_iload C hl 3 rfl dX9_tries_71 ?_
    obtain ⟨d_ad6, e6, hf⟩ := bx hf
    refine r_iast C hw _ (gx_h dO_g35) e6 (dO G ad d_ad6 dw ++ []) (fun h => (sx_h dO_g35 (dO_s35 h))) dX9_tries_73 (fun H locs hw => ?_)
    exact fin_v C hw (Option.some.inj hf) (fun o => (dO G ad o dw ++ [])) rfl dX9_tries_74
  unfold f_X9_tries at hf
  refine r_iload0 C hl 3 rfl dX9_tries_0 ?_
  refine r_aload0 C hl 0 rfl dX9_tries_1 ?_
  refine r_get C hw _ (gx_h dO_o) 34 fl_X9_51 rfl dX9_tries_2 ?_
  refine r_iload0 C hl 1 rfl dX9_tries_5 ?_
  refine r_iload0 C hl 2 rfl dX9_tries_6 ?_
  refine lv_iadd C.1 C.2.1 dX9_tries_7 ?_
  obtain ⟨v1_, e1, hf⟩ := bx hf
  refine r_iald C hw _ (gx_h dO_g34) e1 dX9_tries_8 ?_
  refine lv_iadd C.1 C.2.1 dX9_tries_9 ?_
  refine r_istore C hl [(4, .int (x3 + v1_)), (0, .ref (ad 99)), (1, .int x1), (2, .int x2), (3, .int x3)] (by decide) rfl dX9_tries_10 (fun ls hl => ?_)
  refine lv_iconst (v := 1) C.1 C.2.1 dX9_tries_12 (by decide) ?_
  refine r_aload0 C hl 1 rfl dX9_tries_13 ?_
  refine r_get C hw _ (gx_h dO_o) 35 fl_X9_54 rfl dX9_tries_14 ?_
  refine r_iload0 C hl 2 rfl dX9_tries_17 ?_
  refine r_iload0 C hl 3 rfl dX9_tries_18 ?_
  refine lv_iadd C.1 C.2.1 dX9_tries_19 ?_
  obtain ⟨v2_, e2, hf⟩ := bx hf
  refine r_iald C hw _ (gx_h dO_g35) e2 dX9_tries_20 ?_
  refine lv_iadd C.1 C.2.1 dX9_tries_21 ?_
  refine r_istore C hl [(5, .int (1 + v2_)), (4, .int (x3 + v1_)), (0, .ref (ad 99)), (1, .int x1), (2, .int x2), (3, .int x3)] (by decide) rfl dX9_tries_22 (fun ls hl => ?_)
  refine r_iload C hl 1 rfl dX9_tries_24 ?_
  refine r_aload0 C hl 2 rfl dX9_tries_26 ?_
  refine r_get C hw _ (gx_h dO_o) 34 fl_X9_51 rfl dX9_tries_27 ?_
  refine r_iload0 C hl 3 rfl dX9_tries_30 ?_
  obtain ⟨v3_, e3, hf⟩ := bx hf
  refine r_iald C hw _ (gx_h dO_g34) e3 dX9_tries_31 ?_
  refine lv_icmp_gt (tgt := 57) C.1 C.2.1 dX9_tries_32 (by decide) (fun hc => ?_) (fun hc => ?_)
  · replace hf := ifp hf hc
    exact fin_v C hw (Option.some.inj hf) (fun o => (dO G ad o dw ++ [])) rfl dX9_tries_57
  · replace hf := ifn hf hc
    refine r_iload C hl 1 rfl dX9_tries_35 ?_
    refine r_aload0 C hl 2 rfl dX9_tries_37 ?_
    refine r_get C hw _ (gx_h dO_o) 34 fl_X9_51 rfl dX9_tries_38 ?_
    refine r_iload0 C hl 3 rfl dX9_tries_41 ?_
    obtain ⟨v4_, e4, hf⟩ := bx hf
    refine r_iald C hw _ (gx_h dO_g34) e4 dX9_tries_42 ?_
    refine lv_icmp_ne (tgt := 58) C.1 C.2.1 dX9_tries_43 (by decide) (fun hc => ?_) (fun hc => ?_)
    · replace hf := ifn hf hc
      exact hB_58  d_ad (x3 + v1_) (1 + v2_) hf _ _ hw _ (lv_sub hl [2, 3, 1, 0] rfl)
    · replace hf := ifp hf hc
      refine r_iload C hl 0 rfl dX9_tries_46 ?_
      refine r_aload0 C hl 2 rfl dX9_tries_48 ?_
      refine r_get C hw _ (gx_h dO_o) 35 fl_X9_54 rfl dX9_tries_49 ?_
      refine r_iload0 C hl 3 rfl dX9_tries_52 ?_
      obtain ⟨v7_, e7, hf⟩ := bx hf
      refine r_iald C hw _ (gx_h dO_g35) e7 dX9_tries_53 ?_
      refine lv_icmp_lt (tgt := 58) C.1 C.2.1 dX9_tries_54 (by decide) (fun hc => ?_) (fun hc => ?_)
      · replace hf := ifp hf hc
        exact hB_58  d_ad (x3 + v1_) (1 + v2_) hf _ _ hw _ (lv_sub hl [2, 3, 1, 0] rfl)
      · replace hf := ifn hf hc
        exact fin_v C hw (Option.some.inj hf) (fun o => (dO G ad o dw ++ [])) rfl dX9_tries_57
set_option maxHeartbeats 4000000 in
set_option maxRecDepth 100000 in
theorem c_X9_laysLeast (l : Launch) (G : GG) (ad : Nat → Nat) (sz : Nat) (d_ad : Pic) (dw : Int64)  (out : Pic) (hf : f_X9_laysLeast d_ad = some out) : Met l yX9_laysLeast (.code yX9_laysLeast cX9_laysLeast 4 none :: BT) ({ frames := 1, cells := 0, slots := 0, locals := 25 }) (va_Pc [.ref (ad 99)] (PreW G sz (dO G ad d_ad dw ++ []))) (Don G (va_A (dO G ad d_ad dw ++ []) sz) (dO G ad out dw ++ [])) 0 0 (va_A (dO G ad d_ad dw ++ []) sz) := by
  refine Met.into (by decide) (Nat.le_of_ble_eq_true rfl) ?_
  intro p e s m below meth c C hsz ls hl hw
  have hl : lv_has ls 4 [(0, .ref (ad 99))] := hl
  clear hsz
  generalize va_A (dO G ad d_ad dw ++ []) sz = A at hw ⊢
  have hB_106 : ∀ (k19 : Pic → Int32 → Option (Pic)) (hk19 : ∀ (d_ad : Pic) (v1 : Int32), k19 d_ad v1 = some out → ∀ (H : Heap) (locs : List Loc), Wd G A s H locs (dO G ad d_ad dw ++ []) → ∀ ls : Array Slot, lv_has ls 4 [(0, .ref (ad 99)), (1, .int v1)] → W p l e ({ frames := 1, cells := 0, slots := 0, locals := 25 }) s m [.ref (ad 99)].toArray below meth c H locs 0 0 (MQ below (Don G A (dO G ad out dw ++ [])) [.ref (ad 99)].toArray s 0 0 A) (F0 m 19 ls [])) (k106 : Pic → Int32 → Int32 → Option (Pic)) (hk106 : ∀ (d_ad : Pic) (v1 : Int32) (v2 : Int32), k106 d_ad v1 v2 = some out → ∀ (H : Heap) (locs : List Loc), Wd G A s H locs (dO G ad d_ad dw ++ []) → ∀ ls : Array Slot, lv_has ls 4 [(0, .ref (ad 99)), (1, .int v1), (2, .int v2)] → W p l e ({ frames := 1, cells := 0, slots := 0, locals := 25 }) s m [.ref (ad 99)].toArray below meth c H locs 0 0 (MQ below (Don G A (dO G ad out dw ++ [])) [.ref (ad 99)].toArray s 0 0 A) (F0 m 106 ls [])), ∀ (d_ad : Pic) (v1 : Int32) (v2 : Int32), b_X9_laysLeast_106  k19 k106 d_ad v1 v2 = some out → ∀ (H : Heap) (locs : List Loc), Wd G A s H locs (dO G ad d_ad dw ++ []) → ∀ ls : Array Slot, lv_has ls 4 [(0, .ref (ad 99)), (1, .int v1), (2, .int v2)] → W p l e ({ frames := 1, cells := 0, slots := 0, locals := 25 }) s m [.ref (ad 99)].toArray below meth c H locs 0 0 (MQ below (Don G A (dO G ad out dw ++ [])) [.ref (ad 99)].toArray s 0 0 A) (F0 m 106 ls []) := by
    intro k19 hk19 k106 hk106 d_ad v1 v2 hf H locs hw ls hl
    unfold b_X9_laysLeast_106 at hf
    refine r_iload0 C hl 2 rfl dX9_laysLeast_106 ?_
    refine lv_bipush (v := 8) C.1 C.2.1 dX9_laysLeast_107 (by decide) ?_
    refine lv_icmp_gt (tgt := 135) C.1 C.2.1 dX9_laysLeast_109 (by decide) (fun hc => ?_) (fun hc => ?_)
    · replace hf := ifp hf hc
      refine r_iinc C hl 1 (v1 + (-1)) [(1, .int (v1 + (-1))), (0, .ref (ad 99)), (2, .int v2)] rfl (iinc_e (by decide)) (by decide) rfl dX9_laysLeast_135 (fun ls hl => ?_)
      refine lv_goto (tgt := 19) C.1 C.2.1 dX9_laysLeast_138 (by decide) ?_
      exact hk19 d_ad (v1 + (-1)) hf _ _ hw _ (lv_sub hl [1, 0] rfl)
    · replace hf := ifn hf hc
      refine r_iload0 C hl 1 rfl dX9_laysLeast_112 ?_
      refine r_iload0 C hl 2 rfl dX9_laysLeast_113 ?_
      refine lv_iadd C.1 C.2.1 dX9_laysLeast_114 ?_
      refine lv_bipush (v := 16) C.1 C.2.1 dX9_laysLeast_115 (by decide) ?_
      refine lv_icmp_gt (tgt := 135) C.1 C.2.1 dX9_laysLeast_117 (by decide) (fun hc => ?_) (fun hc => ?_)
      · replace hf := ifp hf hc
        refine r_iinc C hl 1 (v1 + (-1)) [(1, .int (v1 + (-1))), (0, .ref (ad 99)), (2, .int v2)] rfl (iinc_e (by decide)) (by decide) rfl dX9_laysLeast_135 (fun ls hl => ?_)
        refine lv_goto (tgt := 19) C.1 C.2.1 dX9_laysLeast_138 (by decide) ?_
        exact hk19 d_ad (v1 + (-1)) hf _ _ hw _ (lv_sub hl [1, 0] rfl)
      · replace hf := ifn hf hc
        refine r_aload0 C hl 0 rfl dX9_laysLeast_120 ?_
        refine r_iload0 C hl 1 rfl dX9_laysLeast_121 ?_
        refine r_iload0 C hl 2 rfl dX9_laysLeast_122 ?_
        refine lv_iconst (v := 1) C.1 C.2.1 dX9_laysLeast_123 (by decide) ?_
        refine r_iload0 C hl 2 rfl dX9_laysLeast_124 ?_
        refine lv_iadd C.1 C.2.1 dX9_laysLeast_125 ?_
        obtain ⟨u6, e6, hf⟩ := bx hf
        refine r_callVv (ws' := (dO G ad u6 dw ++ [])) (As := [.int v1, .int v2, .int (1 + v2)]) (rest := []) C hw hl.1 kX9_tries ml_X9_245 (c_X9_tries l G ad _ d_ad dw v1 v2 (1 + v2) u6 e6) (CutX.take dO_f CutX.none) _ (gx_h dO_o) rfl ⟨rfl, rfl⟩ ⟨Nat.le_of_ble_eq_true rfl, Nat.le_of_ble_eq_true rfl⟩ rfl ⟨Nat.zero_le _, Nat.zero_le _⟩ rfl (Nat.le_of_ble_eq_true rfl) dX9_laysLeast_126 (fun H locs hw => ?_)
        refine r_iinc C hl 2 (v2 + 1) [(2, .int (v2 + 1)), (0, .ref (ad 99)), (1, .int v1)] rfl (iinc_e (by decide)) (by decide) rfl dX9_laysLeast_129 (fun ls hl => ?_)
        refine lv_goto (tgt := 106) C.1 C.2.1 dX9_laysLeast_132 (by decide) ?_
        exact hk106 u6 v1 (v2 + 1) hf _ _ hw _ (lv_sub hl [1, 2, 0] rfl)
  have hL_106 : ∀ (k19 : Pic → Int32 → Option (Pic)) (hk19 : ∀ (d_ad : Pic) (v1 : Int32), k19 d_ad v1 = some out → ∀ (H : Heap) (locs : List Loc), Wd G A s H locs (dO G ad d_ad dw ++ []) → ∀ ls : Array Slot, lv_has ls 4 [(0, .ref (ad 99)), (1, .int v1)] → W p l e ({ frames := 1, cells := 0, slots := 0, locals := 25 }) s m [.ref (ad 99)].toArray below meth c H locs 0 0 (MQ below (Don G A (dO G ad out dw ++ [])) [.ref (ad 99)].toArray s 0 0 A) (F0 m 19 ls [])), ∀ n : Nat, ∀ (d_ad : Pic) (v1 : Int32) (v2 : Int32), L_X9_laysLeast_106  k19 n d_ad v1 v2 = some out → ∀ (H : Heap) (locs : List Loc), Wd G A s H locs (dO G ad d_ad dw ++ []) → ∀ ls : Array Slot, lv_has ls 4 [(0, .ref (ad 99)), (1, .int v1), (2, .int v2)] → W p l e ({ frames := 1, cells := 0, slots := 0, locals := 25 }) s m [.ref (ad 99)].toArray below meth c H locs 0 0 (MQ below (Don G A (dO G ad out dw ++ [])) [.ref (ad 99)].toArray s 0 0 A) (F0 m 106 ls []) := by
    intro k19 hk19 n
    induction n with
    | zero => intro d_ad v1 v2 hf; cases hf
    | succ n ih => exact hB_106 k19 hk19 _ ih
  have hB_80 : ∀ (k19 : Pic → Int32 → Option (Pic)) (hk19 : ∀ (d_ad : Pic) (v1 : Int32), k19 d_ad v1 = some out → ∀ (H : Heap) (locs : List Loc), Wd G A s H locs (dO G ad d_ad dw ++ []) → ∀ ls : Array Slot, lv_has ls 4 [(0, .ref (ad 99)), (1, .int v1)] → W p l e ({ frames := 1, cells := 0, slots := 0, locals := 25 }) s m [.ref (ad 99)].toArray below meth c H locs 0 0 (MQ below (Don G A (dO G ad out dw ++ [])) [.ref (ad 99)].toArray s 0 0 A) (F0 m 19 ls [])) (k67 : Pic → Int32 → Int32 → Option (Pic)) (hk67 : ∀ (d_ad : Pic) (v1 : Int32) (v2 : Int32), k67 d_ad v1 v2 = some out → ∀ (H : Heap) (locs : List Loc), Wd G A s H locs (dO G ad d_ad dw ++ []) → ∀ ls : Array Slot, lv_has ls 4 [(0, .ref (ad 99)), (1, .int v1), (2, .int v2)] → W p l e ({ frames := 1, cells := 0, slots := 0, locals := 25 }) s m [.ref (ad 99)].toArray below meth c H locs 0 0 (MQ below (Don G A (dO G ad out dw ++ [])) [.ref (ad 99)].toArray s 0 0 A) (F0 m 67 ls [])) (k80 : Pic → Int32 → Int32 → Int32 → Option (Pic)) (hk80 : ∀ (d_ad : Pic) (v1 : Int32) (v2 : Int32) (v3 : Int32), k80 d_ad v1 v2 v3 = some out → ∀ (H : Heap) (locs : List Loc), Wd G A s H locs (dO G ad d_ad dw ++ []) → ∀ ls : Array Slot, lv_has ls 4 [(0, .ref (ad 99)), (1, .int v1), (2, .int v2), (3, .int v3)] → W p l e ({ frames := 1, cells := 0, slots := 0, locals := 25 }) s m [.ref (ad 99)].toArray below meth c H locs 0 0 (MQ below (Don G A (dO G ad out dw ++ [])) [.ref (ad 99)].toArray s 0 0 A) (F0 m 80 ls [])), ∀ (d_ad : Pic) (v1 : Int32) (v2 : Int32) (v3 : Int32), b_X9_laysLeast_80  k19 k67 k80 d_ad v1 v2 v3 = some out → ∀ (H : Heap) (locs : List Loc), Wd G A s H locs (dO G ad d_ad dw ++ []) → ∀ ls : Array Slot, lv_has ls 4 [(0, .ref (ad 99)), (1, .int v1), (2, .int v2), (3, .int v3)] → W p l e ({ frames := 1, cells := 0, slots := 0, locals := 25 }) s m [.ref (ad 99)].toArray below meth c H locs 0 0 (MQ below (Don G A (dO G ad out dw ++ [])) [.ref (ad 99)].toArray s 0 0 A) (F0 m 80 ls []) := by
    intro k19 hk19 k67 hk67 k80 hk80 d_ad v1 v2 v3 hf H locs hw ls hl
    unfold b_X9_laysLeast_80 at hf
    refine r_iload0 C hl 3 rfl dX9_laysLeast_80 ?_
    refine lv_iconst (v := 1) C.1 C.2.1 dX9_laysLeast_81 (by decide) ?_
    refine lv_icmp_le (tgt := 98) C.1 C.2.1 dX9_laysLeast_82 (by decide) (fun hc => ?_) (fun hc => ?_)
    · replace hf := ifp hf hc
      refine r_iinc C hl 2 (v2 + 1) [(2, .int (v2 + 1)), (0, .ref (ad 99)), (1, .int v1), (3, .int v3)] rfl (iinc_e (by decide)) (by decide) rfl dX9_laysLeast_98 (fun ls hl => ?_)
      refine lv_goto (tgt := 67) C.1 C.2.1 dX9_laysLeast_101 (by decide) ?_
      exact hk67 d_ad v1 (v2 + 1) hf _ _ hw _ (lv_sub hl [1, 2, 0] rfl)
    · replace hf := ifn hf hc
      refine r_aload0 C hl 0 rfl dX9_laysLeast_85 ?_
      refine r_iload0 C hl 1 rfl dX9_laysLeast_86 ?_
      refine r_iload0 C hl 3 rfl dX9_laysLeast_87 ?_
      refine lv_iconst (v := 3) C.1 C.2.1 dX9_laysLeast_88 (by decide) ?_
      obtain ⟨u8, e8, hf⟩ := bx hf
      refine r_callVv (ws' := (dO G ad u8 dw ++ [])) (As := [.int v1, .int v3, .int 3]) (rest := []) C hw hl.1 kX9_tries ml_X9_245 (c_X9_tries l G ad _ d_ad dw v1 v3 3 u8 e8) (CutX.take dO_f CutX.none) _ (gx_h dO_o) rfl ⟨rfl, rfl⟩ ⟨Nat.le_of_ble_eq_true rfl, Nat.le_of_ble_eq_true rfl⟩ rfl ⟨Nat.zero_le _, Nat.zero_le _⟩ rfl (Nat.le_of_ble_eq_true rfl) dX9_laysLeast_89 (fun H locs hw => ?_)
      refine r_iinc C hl 3 (v3 + (-1)) [(3, .int (v3 + (-1))), (0, .ref (ad 99)), (1, .int v1), (2, .int v2)] rfl (iinc_e (by decide)) (by decide) rfl dX9_laysLeast_92 (fun ls hl => ?_)
      refine lv_goto (tgt := 80) C.1 C.2.1 dX9_laysLeast_95 (by decide) ?_
      exact hk80 u8 v1 v2 (v3 + (-1)) hf _ _ hw _ (lv_sub hl [1, 2, 3, 0] rfl)
  have hL_80 : ∀ (k19 : Pic → Int32 → Option (Pic)) (hk19 : ∀ (d_ad : Pic) (v1 : Int32), k19 d_ad v1 = some out → ∀ (H : Heap) (locs : List Loc), Wd G A s H locs (dO G ad d_ad dw ++ []) → ∀ ls : Array Slot, lv_has ls 4 [(0, .ref (ad 99)), (1, .int v1)] → W p l e ({ frames := 1, cells := 0, slots := 0, locals := 25 }) s m [.ref (ad 99)].toArray below meth c H locs 0 0 (MQ below (Don G A (dO G ad out dw ++ [])) [.ref (ad 99)].toArray s 0 0 A) (F0 m 19 ls [])) (k67 : Pic → Int32 → Int32 → Option (Pic)) (hk67 : ∀ (d_ad : Pic) (v1 : Int32) (v2 : Int32), k67 d_ad v1 v2 = some out → ∀ (H : Heap) (locs : List Loc), Wd G A s H locs (dO G ad d_ad dw ++ []) → ∀ ls : Array Slot, lv_has ls 4 [(0, .ref (ad 99)), (1, .int v1), (2, .int v2)] → W p l e ({ frames := 1, cells := 0, slots := 0, locals := 25 }) s m [.ref (ad 99)].toArray below meth c H locs 0 0 (MQ below (Don G A (dO G ad out dw ++ [])) [.ref (ad 99)].toArray s 0 0 A) (F0 m 67 ls [])), ∀ n : Nat, ∀ (d_ad : Pic) (v1 : Int32) (v2 : Int32) (v3 : Int32), L_X9_laysLeast_80  k19 k67 n d_ad v1 v2 v3 = some out → ∀ (H : Heap) (locs : List Loc), Wd G A s H locs (dO G ad d_ad dw ++ []) → ∀ ls : Array Slot, lv_has ls 4 [(0, .ref (ad 99)), (1, .int v1), (2, .int v2), (3, .int v3)] → W p l e ({ frames := 1, cells := 0, slots := 0, locals := 25 }) s m [.ref (ad 99)].toArray below meth c H locs 0 0 (MQ below (Don G A (dO G ad out dw ++ [])) [.ref (ad 99)].toArray s 0 0 A) (F0 m 80 ls []) := by
    intro k19 hk19 k67 hk67 n
    induction n with
    | zero => intro d_ad v1 v2 v3 hf; cases hf
    | succ n ih => exact hB_80 k19 hk19 k67 hk67 _ ih
  have hB_67 : ∀ (k19 : Pic → Int32 → Option (Pic)) (hk19 : ∀ (d_ad : Pic) (v1 : Int32), k19 d_ad v1 = some out → ∀ (H : Heap) (locs : List Loc), Wd G A s H locs (dO G ad d_ad dw ++ []) → ∀ ls : Array Slot, lv_has ls 4 [(0, .ref (ad 99)), (1, .int v1)] → W p l e ({ frames := 1, cells := 0, slots := 0, locals := 25 }) s m [.ref (ad 99)].toArray below meth c H locs 0 0 (MQ below (Don G A (dO G ad out dw ++ [])) [.ref (ad 99)].toArray s 0 0 A) (F0 m 19 ls [])) (k67 : Pic → Int32 → Int32 → Option (Pic)) (hk67 : ∀ (d_ad : Pic) (v1 : Int32) (v2 : Int32), k67 d_ad v1 v2 = some out → ∀ (H : Heap) (locs : List Loc), Wd G A s H locs (dO G ad d_ad dw ++ []) → ∀ ls : Array Slot, lv_has ls 4 [(0, .ref (ad 99)), (1, .int v1), (2, .int v2)] → W p l e ({ frames := 1, cells := 0, slots := 0, locals := 25 }) s m [.ref (ad 99)].toArray below meth c H locs 0 0 (MQ below (Don G A (dO G ad out dw ++ [])) [.ref (ad 99)].toArray s 0 0 A) (F0 m 67 ls [])), ∀ (d_ad : Pic) (v1 : Int32) (v2 : Int32), b_X9_laysLeast_67  k19 k67 d_ad v1 v2 = some out → ∀ (H : Heap) (locs : List Loc), Wd G A s H locs (dO G ad d_ad dw ++ []) → ∀ ls : Array Slot, lv_has ls 4 [(0, .ref (ad 99)), (1, .int v1), (2, .int v2)] → W p l e ({ frames := 1, cells := 0, slots := 0, locals := 25 }) s m [.ref (ad 99)].toArray below meth c H locs 0 0 (MQ below (Don G A (dO G ad out dw ++ [])) [.ref (ad 99)].toArray s 0 0 A) (F0 m 67 ls []) := by
    intro k19 hk19 k67 hk67 d_ad v1 v2 hf H locs hw ls hl
    unfold b_X9_laysLeast_67 at hf
    refine r_iload0 C hl 2 rfl dX9_laysLeast_67 ?_
    refine lv_bipush (v := 15) C.1 C.2.1 dX9_laysLeast_68 (by decide) ?_
    refine lv_icmp_gt (tgt := 104) C.1 C.2.1 dX9_laysLeast_70 (by decide) (fun hc => ?_) (fun hc => ?_)
    · replace hf := ifp hf hc
      refine lv_iconst (v := 1) C.1 C.2.1 dX9_laysLeast_104 (by decide) ?_
      refine r_istore0 C hl [(2, .int 1), (0, .ref (ad 99)), (1, .int v1)] (by decide) rfl dX9_laysLeast_105 (fun ls hl => ?_)
      exact hL_106 k19 hk19 FU d_ad v1 1 hf _ _ hw _ (lv_sub hl [1, 2, 0] rfl)
    · replace hf := ifn hf hc
      refine r_aload0 C hl 0 rfl dX9_laysLeast_73 ?_
      refine r_iload0 C hl 1 rfl dX9_laysLeast_74 ?_
      refine r_iload0 C hl 2 rfl dX9_laysLeast_75 ?_
      obtain ⟨u7, e7, hf⟩ := bx hf
      refine r_callVi (ws' := (dO G ad d_ad dw ++ [])) (As := [.int v1, .int v2]) (rest := []) C hw hl.1 kX9_copyAt ml_X9_249 (c_X9_copyAt l G ad _ d_ad dw v1 v2 u7 e7) (CutX.take dO_f CutX.none) _ (gx_h dO_o) rfl ⟨rfl, rfl⟩ ⟨Nat.le_of_ble_eq_true rfl, Nat.le_of_ble_eq_true rfl⟩ rfl ⟨Nat.zero_le _, Nat.zero_le _⟩ rfl (Nat.le_of_ble_eq_true rfl) dX9_laysLeast_76 (fun H locs hw => ?_)
      refine r_istore0 C hl [(3, .int u7), (0, .ref (ad 99)), (1, .int v1), (2, .int v2)] (by decide) rfl dX9_laysLeast_79 (fun ls hl => ?_)
      exact hL_80 k19 hk19 k67 hk67 FU d_ad v1 v2 u7 hf _ _ hw _ (lv_sub hl [1, 2, 3, 0] rfl)
  have hL_67 : ∀ (k19 : Pic → Int32 → Option (Pic)) (hk19 : ∀ (d_ad : Pic) (v1 : Int32), k19 d_ad v1 = some out → ∀ (H : Heap) (locs : List Loc), Wd G A s H locs (dO G ad d_ad dw ++ []) → ∀ ls : Array Slot, lv_has ls 4 [(0, .ref (ad 99)), (1, .int v1)] → W p l e ({ frames := 1, cells := 0, slots := 0, locals := 25 }) s m [.ref (ad 99)].toArray below meth c H locs 0 0 (MQ below (Don G A (dO G ad out dw ++ [])) [.ref (ad 99)].toArray s 0 0 A) (F0 m 19 ls [])), ∀ n : Nat, ∀ (d_ad : Pic) (v1 : Int32) (v2 : Int32), L_X9_laysLeast_67  k19 n d_ad v1 v2 = some out → ∀ (H : Heap) (locs : List Loc), Wd G A s H locs (dO G ad d_ad dw ++ []) → ∀ ls : Array Slot, lv_has ls 4 [(0, .ref (ad 99)), (1, .int v1), (2, .int v2)] → W p l e ({ frames := 1, cells := 0, slots := 0, locals := 25 }) s m [.ref (ad 99)].toArray below meth c H locs 0 0 (MQ below (Don G A (dO G ad out dw ++ [])) [.ref (ad 99)].toArray s 0 0 A) (F0 m 67 ls []) := by
    intro k19 hk19 n
    induction n with
    | zero => intro d_ad v1 v2 hf; cases hf
    | succ n ih => exact hB_67 k19 hk19 _ ih
  have hB_47 : ∀ (k19 : Pic → Int32 → Option (Pic)) (hk19 : ∀ (d_ad : Pic) (v1 : Int32), k19 d_ad v1 = some out → ∀ (H : Heap) (locs : List Loc), Wd G A s H locs (dO G ad d_ad dw ++ []) → ∀ ls : Array Slot, lv_has ls 4 [(0, .ref (ad 99)), (1, .int v1)] → W p l e ({ frames := 1, cells := 0, slots := 0, locals := 25 }) s m [.ref (ad 99)].toArray below meth c H locs 0 0 (MQ below (Don G A (dO G ad out dw ++ [])) [.ref (ad 99)].toArray s 0 0 A) (F0 m 19 ls [])) (k47 : Pic → Int32 → Int32 → Option (Pic)) (hk47 : ∀ (d_ad : Pic) (v1 : Int32) (v2 : Int32), k47 d_ad v1 v2 = some out → ∀ (H : Heap) (locs : List Loc), Wd G A s H locs (dO G ad d_ad dw ++ []) → ∀ ls : Array Slot, lv_has ls 4 [(0, .ref (ad 99)), (1, .int v1), (2, .int v2)] → W p l e ({ frames := 1, cells := 0, slots := 0, locals := 25 }) s m [.ref (ad 99)].toArray below meth c H locs 0 0 (MQ below (Don G A (dO G ad out dw ++ [])) [.ref (ad 99)].toArray s 0 0 A) (F0 m 47 ls [])), ∀ (d_ad : Pic) (v1 : Int32) (v2 : Int32), b_X9_laysLeast_47  k19 k47 d_ad v1 v2 = some out → ∀ (H : Heap) (locs : List Loc), Wd G A s H locs (dO G ad d_ad dw ++ []) → ∀ ls : Array Slot, lv_has ls 4 [(0, .ref (ad 99)), (1, .int v1), (2, .int v2)] → W p l e ({ frames := 1, cells := 0, slots := 0, locals := 25 }) s m [.ref (ad 99)].toArray below meth c H locs 0 0 (MQ below (Don G A (dO G ad out dw ++ [])) [.ref (ad 99)].toArray s 0 0 A) (F0 m 47 ls []) := by
    intro k19 hk19 k47 hk47 d_ad v1 v2 hf H locs hw ls hl
    unfold b_X9_laysLeast_47 at hf
    refine r_iload0 C hl 2 rfl dX9_laysLeast_47 ?_
    refine lv_iconst (v := 1) C.1 C.2.1 dX9_laysLeast_48 (by decide) ?_
    refine lv_icmp_le (tgt := 65) C.1 C.2.1 dX9_laysLeast_49 (by decide) (fun hc => ?_) (fun hc => ?_)
    · replace hf := ifp hf hc
      refine lv_iconst (v := 2) C.1 C.2.1 dX9_laysLeast_65 (by decide) ?_
      refine r_istore0 C hl [(2, .int 2), (0, .ref (ad 99)), (1, .int v1)] (by decide) rfl dX9_laysLeast_66 (fun ls hl => ?_)
      exact hL_67 k19 hk19 FU d_ad v1 2 hf _ _ hw _ (lv_sub hl [1, 2, 0] rfl)
    · replace hf := ifn hf hc
      refine r_aload0 C hl 0 rfl dX9_laysLeast_52 ?_
      refine r_iload0 C hl 1 rfl dX9_laysLeast_53 ?_
      refine r_iload0 C hl 2 rfl dX9_laysLeast_54 ?_
      refine lv_iconst (v := 2) C.1 C.2.1 dX9_laysLeast_55 (by decide) ?_
      obtain ⟨u9, e9, hf⟩ := bx hf
      refine r_callVv (ws' := (dO G ad u9 dw ++ [])) (As := [.int v1, .int v2, .int 2]) (rest := []) C hw hl.1 kX9_tries ml_X9_245 (c_X9_tries l G ad _ d_ad dw v1 v2 2 u9 e9) (CutX.take dO_f CutX.none) _ (gx_h dO_o) rfl ⟨rfl, rfl⟩ ⟨Nat.le_of_ble_eq_true rfl, Nat.le_of_ble_eq_true rfl⟩ rfl ⟨Nat.zero_le _, Nat.zero_le _⟩ rfl (Nat.le_of_ble_eq_true rfl) dX9_laysLeast_56 (fun H locs hw => ?_)
      refine r_iinc C hl 2 (v2 + (-1)) [(2, .int (v2 + (-1))), (0, .ref (ad 99)), (1, .int v1)] rfl (iinc_e (by decide)) (by decide) rfl dX9_laysLeast_59 (fun ls hl => ?_)
      refine lv_goto (tgt := 47) C.1 C.2.1 dX9_laysLeast_62 (by decide) ?_
      exact hk47 u9 v1 (v2 + (-1)) hf _ _ hw _ (lv_sub hl [1, 2, 0] rfl)
  have hL_47 : ∀ (k19 : Pic → Int32 → Option (Pic)) (hk19 : ∀ (d_ad : Pic) (v1 : Int32), k19 d_ad v1 = some out → ∀ (H : Heap) (locs : List Loc), Wd G A s H locs (dO G ad d_ad dw ++ []) → ∀ ls : Array Slot, lv_has ls 4 [(0, .ref (ad 99)), (1, .int v1)] → W p l e ({ frames := 1, cells := 0, slots := 0, locals := 25 }) s m [.ref (ad 99)].toArray below meth c H locs 0 0 (MQ below (Don G A (dO G ad out dw ++ [])) [.ref (ad 99)].toArray s 0 0 A) (F0 m 19 ls [])), ∀ n : Nat, ∀ (d_ad : Pic) (v1 : Int32) (v2 : Int32), L_X9_laysLeast_47  k19 n d_ad v1 v2 = some out → ∀ (H : Heap) (locs : List Loc), Wd G A s H locs (dO G ad d_ad dw ++ []) → ∀ ls : Array Slot, lv_has ls 4 [(0, .ref (ad 99)), (1, .int v1), (2, .int v2)] → W p l e ({ frames := 1, cells := 0, slots := 0, locals := 25 }) s m [.ref (ad 99)].toArray below meth c H locs 0 0 (MQ below (Don G A (dO G ad out dw ++ [])) [.ref (ad 99)].toArray s 0 0 A) (F0 m 47 ls []) := by
    intro k19 hk19 n
    induction n with
    | zero => intro d_ad v1 v2 hf; cases hf
    | succ n ih => exact hB_47 k19 hk19 _ ih
  have hB_19 : ∀ (k19 : Pic → Int32 → Option (Pic)) (hk19 : ∀ (d_ad : Pic) (v1 : Int32), k19 d_ad v1 = some out → ∀ (H : Heap) (locs : List Loc), Wd G A s H locs (dO G ad d_ad dw ++ []) → ∀ ls : Array Slot, lv_has ls 4 [(0, .ref (ad 99)), (1, .int v1)] → W p l e ({ frames := 1, cells := 0, slots := 0, locals := 25 }) s m [.ref (ad 99)].toArray below meth c H locs 0 0 (MQ below (Don G A (dO G ad out dw ++ [])) [.ref (ad 99)].toArray s 0 0 A) (F0 m 19 ls [])), ∀ (d_ad : Pic) (v1 : Int32), b_X9_laysLeast_19  k19 d_ad v1 = some out → ∀ (H : Heap) (locs : List Loc), Wd G A s H locs (dO G ad d_ad dw ++ []) → ∀ ls : Array Slot, lv_has ls 4 [(0, .ref (ad 99)), (1, .int v1)] → W p l e ({ frames := 1, cells := 0, slots := 0, locals := 25 }) s m [.ref (ad 99)].toArray below meth c H locs 0 0 (MQ below (Don G A (dO G ad out dw ++ [])) [.ref (ad 99)].toArray s 0 0 A) (F0 m 19 ls []) := by
    intro k19 hk19 d_ad v1 hf H locs hw ls hl
    unfold b_X9_laysLeast_19 at hf
    refine r_iload0 C hl 1 rfl dX9_laysLeast_19 ?_
    refine lv_if_lt (tgt := 141) C.1 C.2.1 dX9_laysLeast_20 (by decide) (fun hc => ?_) (fun hc => ?_)
    · replace hf := ifp hf hc
      exact fin_v C hw (Option.some.inj hf) (fun o => (dO G ad o dw ++ [])) rfl dX9_laysLeast_141
    · replace hf := ifn hf hc
      refine r_aload0 C hl 0 rfl dX9_laysLeast_23 ?_
      refine r_get C hw _ (gx_h dO_o) 34 fl_X9_51 rfl dX9_laysLeast_24 ?_
      refine r_iload0 C hl 1 rfl dX9_laysLeast_27 ?_
      refine lv_sipush (v := 1000) C.1 C.2.1 dX9_laysLeast_28 (by decide) ?_
      obtain ⟨d_ad3, e3, hf⟩ := bx hf
      refine r_iast C hw _ (gx_h dO_g34) e3 (dO G ad d_ad3 dw ++ []) (fun h => (sx_h dO_g34 (dO_s34 h))) dX9_laysLeast_31 (fun H locs hw => ?_)
      refine r_aload0 C hl 0 rfl dX9_laysLeast_32 ?_
      refine r_get C hw _ (gx_h dO_o) 35 fl_X9_54 rfl dX9_laysLeast_33 ?_
      refine r_iload0 C hl 1 rfl dX9_laysLeast_36 ?_
      refine lv_sipush (v := 1000) C.1 C.2.1 dX9_laysLeast_37 (by decide) ?_
      obtain ⟨d_ad4, e4, hf⟩ := bx hf
      refine r_iast C hw _ (gx_h dO_g35) e4 (dO G ad d_ad4 dw ++ []) (fun h => (sx_h dO_g35 (dO_s35 h))) dX9_laysLeast_40 (fun H locs hw => ?_)
      refine r_aload0 C hl 0 rfl dX9_laysLeast_41 ?_
      refine r_iload0 C hl 1 rfl dX9_laysLeast_42 ?_
      obtain ⟨u5, e5, hf⟩ := bx hf
      refine r_callVi (ws' := (dO G ad d_ad4 dw ++ [])) (As := [.int v1]) (rest := []) C hw hl.1 kX9_runAt ml_X9_242 (c_X9_runAt l G ad _ d_ad4 dw v1 u5 e5) (CutX.take dO_f CutX.none) _ (gx_h dO_o) rfl ⟨rfl, rfl⟩ ⟨Nat.le_of_ble_eq_true rfl, Nat.le_of_ble_eq_true rfl⟩ rfl ⟨Nat.zero_le _, Nat.zero_le _⟩ rfl (Nat.le_of_ble_eq_true rfl) dX9_laysLeast_43 (fun H locs hw => ?_)
      refine r_istore0 C hl [(2, .int u5), (0, .ref (ad 99)), (1, .int v1)] (by decide) rfl dX9_laysLeast_46 (fun ls hl => ?_)
      exact hL_47 k19 hk19 FU d_ad4 v1 u5 hf _ _ hw _ (lv_sub hl [1, 2, 0] rfl)
  have hL_19 : ∀ n : Nat, ∀ (d_ad : Pic) (v1 : Int32), L_X9_laysLeast_19   n d_ad v1 = some out → ∀ (H : Heap) (locs : List Loc), Wd G A s H locs (dO G ad d_ad dw ++ []) → ∀ ls : Array Slot, lv_has ls 4 [(0, .ref (ad 99)), (1, .int v1)] → W p l e ({ frames := 1, cells := 0, slots := 0, locals := 25 }) s m [.ref (ad 99)].toArray below meth c H locs 0 0 (MQ below (Don G A (dO G ad out dw ++ [])) [.ref (ad 99)].toArray s 0 0 A) (F0 m 19 ls []) := by
    intro  n
    induction n with
    | zero => intro d_ad v1 hf; cases hf
    | succ n ih => exact hB_19 _ ih
  unfold f_X9_laysLeast at hf
  refine r_aload0 C hl 0 rfl dX9_laysLeast_0 ?_
  refine r_get C hw _ (gx_h dO_o) 34 fl_X9_51 rfl dX9_laysLeast_1 ?_
  refine lv_bipush (v := 16) C.1 C.2.1 dX9_laysLeast_4 (by decide) ?_
  refine lv_iconst (v := 0) C.1 C.2.1 dX9_laysLeast_6 (by decide) ?_
  obtain ⟨d_ad1, e1, hf⟩ := bx hf
  refine r_iast C hw _ (gx_h dO_g34) e1 (dO G ad d_ad1 dw ++ []) (fun h => (sx_h dO_g34 (dO_s34 h))) dX9_laysLeast_7 (fun H locs hw => ?_)
  refine r_aload0 C hl 0 rfl dX9_laysLeast_8 ?_
  refine r_get C hw _ (gx_h dO_o) 35 fl_X9_54 rfl dX9_laysLeast_9 ?_
  refine lv_bipush (v := 16) C.1 C.2.1 dX9_laysLeast_12 (by decide) ?_
  refine lv_iconst (v := 0) C.1 C.2.1 dX9_laysLeast_14 (by decide) ?_
  obtain ⟨d_ad2, e2, hf⟩ := bx hf
  refine r_iast C hw _ (gx_h dO_g35) e2 (dO G ad d_ad2 dw ++ []) (fun h => (sx_h dO_g35 (dO_s35 h))) dX9_laysLeast_15 (fun H locs hw => ?_)
  refine lv_bipush (v := 15) C.1 C.2.1 dX9_laysLeast_16 (by decide) ?_
  refine r_istore0 C hl [(1, .int 15), (0, .ref (ad 99))] (by decide) rfl dX9_laysLeast_18 (fun ls hl => ?_)
  exact hL_19  FU d_ad2 15 hf _ _ hw _ (lv_sub hl [1, 0] rfl)
set_option maxHeartbeats 4000000 in
set_option maxRecDepth 100000 in
theorem c_X9_isCheapest (l : Launch) (G : GG) (ad : Nat → Nat) (sz : Nat) (d_ad : Pic) (dw : Int64) (x1 : Int32) (x2 : Int32) (x3 : Int32) (out : Int32) (hf : f_X9_isCheapest d_ad x1 x2 x3 = some out) : Met l yX9_isCheapest (.code yX9_isCheapest cX9_isCheapest 4 (some .boolean) :: BT) ({ frames := 0, cells := 0, slots := 0, locals := 0 }) (va_Pc [.ref (ad 99), .int x1, .int x2, .int x3] (PreW G sz (dO G ad d_ad dw ++ []))) (Ans G out (va_A (dO G ad d_ad dw ++ []) sz) (dO G ad d_ad dw ++ [])) 0 0 (va_A (dO G ad d_ad dw ++ []) sz) := by
  refine Met.into (by decide) (Nat.le_of_ble_eq_true rfl) ?_
  intro p e s m below meth c C hsz ls hl hw
  have hl : lv_has ls 4 [(0, .ref (ad 99)), (1, .int x1), (2, .int x2), (3, .int x3)] := hl
  clear hsz
  generalize va_A (dO G ad d_ad dw ++ []) sz = A at hw ⊢
  unfold f_X9_isCheapest at hf
  refine r_iload0 C hl 3 rfl dX9_isCheapest_0 ?_
  refine r_aload0 C hl 0 rfl dX9_isCheapest_1 ?_
  refine r_get C hw _ (gx_h dO_o) 34 fl_X9_51 rfl dX9_isCheapest_2 ?_
  refine r_iload0 C hl 1 rfl dX9_isCheapest_5 ?_
  refine r_iload0 C hl 2 rfl dX9_isCheapest_6 ?_
  refine lv_iadd C.1 C.2.1 dX9_isCheapest_7 ?_
  obtain ⟨v1_, e1, hf⟩ := bx hf
  refine r_iald C hw _ (gx_h dO_g34) e1 dX9_isCheapest_8 ?_
  refine lv_iadd C.1 C.2.1 dX9_isCheapest_9 ?_
  refine r_aload0 C hl 0 rfl dX9_isCheapest_10 ?_
  refine r_get C hw _ (gx_h dO_o) 34 fl_X9_51 rfl dX9_isCheapest_11 ?_
  refine r_iload0 C hl 1 rfl dX9_isCheapest_14 ?_
  obtain ⟨v2_, e2, hf⟩ := bx hf
  refine r_iald C hw _ (gx_h dO_g34) e2 dX9_isCheapest_15 ?_
  refine lv_icmp_ne (tgt := 23) C.1 C.2.1 dX9_isCheapest_16 (by decide) (fun hc => ?_) (fun hc => ?_)
  · replace hf := ifn hf hc
    refine lv_iconst (v := 0) C.1 C.2.1 dX9_isCheapest_23 (by decide) ?_
    exact fin_z C hw (by decide) (Option.some.inj hf) (fun o => o) (fun o => (dO G ad d_ad dw ++ [])) rfl rfl dX9_isCheapest_24
  · replace hf := ifp hf hc
    refine lv_iconst (v := 1) C.1 C.2.1 dX9_isCheapest_19 (by decide) ?_
    refine lv_goto (tgt := 24) C.1 C.2.1 dX9_isCheapest_20 (by decide) ?_
    exact fin_z C hw (by decide) (Option.some.inj hf) (fun o => o) (fun o => (dO G ad d_ad dw ++ [])) rfl rfl dX9_isCheapest_24
set_option maxHeartbeats 4000000 in
set_option maxRecDepth 100000 in
theorem c_X9_cutHere (l : Launch) (G : GG) (ad : Nat → Nat) (sz : Nat) (d_ad : Pic) (dw : Int64) (x1 : Int32) (x2 : Int32) (x3 : Int32) (x4 : Int32) (out : Pic) (hf : f_X9_cutHere d_ad x1 x2 x3 x4 = some out) : Met l yX9_cutHere (.code yX9_cutHere cX9_cutHere 5 none :: BT) ({ frames := 0, cells := 0, slots := 0, locals := 0 }) (va_Pc [.ref (ad 99), .int x1, .int x2, .int x3, .int x4] (PreW G sz (dO G ad d_ad dw ++ []))) (Don G (va_A (dO G ad d_ad dw ++ []) sz) (dO G ad out dw ++ [])) 0 0 (va_A (dO G ad d_ad dw ++ []) sz) := by
  refine Met.into (by decide) (Nat.le_of_ble_eq_true rfl) ?_
  intro p e s m below meth c C hsz ls hl hw
  have hl : lv_has ls 5 [(0, .ref (ad 99)), (1, .int x1), (2, .int x2), (3, .int x3), (4, .int x4)] := hl
  clear hsz
  generalize va_A (dO G ad d_ad dw ++ []) sz = A at hw ⊢
  unfold f_X9_cutHere at hf
  refine r_aload0 C hl 0 rfl dX9_cutHere_0 ?_
  refine r_get C hw _ (gx_h dO_o) 36 fl_X9_57 rfl dX9_cutHere_1 ?_
  refine r_aload0 C hl 0 rfl dX9_cutHere_4 ?_
  refine r_get C hw _ (gx_h dO_o) 40 fl_X9_252 rfl dX9_cutHere_5 ?_
  refine r_iload0 C hl 1 rfl dX9_cutHere_8 ?_
  obtain ⟨d_ad1, e1, hf⟩ := bx hf
  refine r_iast C hw _ (gx_h dO_g36) e1 (dO G ad d_ad1 dw ++ []) (fun h => (sx_h dO_g36 (dO_s36 h))) dX9_cutHere_9 (fun H locs hw => ?_)
  refine r_aload0 C hl 0 rfl dX9_cutHere_10 ?_
  refine r_get C hw _ (gx_h dO_o) 37 fl_X9_60 rfl dX9_cutHere_11 ?_
  refine r_aload0 C hl 0 rfl dX9_cutHere_14 ?_
  refine r_get C hw _ (gx_h dO_o) 40 fl_X9_252 rfl dX9_cutHere_15 ?_
  refine r_iload0 C hl 2 rfl dX9_cutHere_18 ?_
  obtain ⟨d_ad2, e2, hf⟩ := bx hf
  refine r_iast C hw _ (gx_h dO_g37) e2 (dO G ad d_ad2 dw ++ []) (fun h => (sx_h dO_g37 (dO_s37 h))) dX9_cutHere_19 (fun H locs hw => ?_)
  refine r_aload0 C hl 0 rfl dX9_cutHere_20 ?_
  refine r_get C hw _ (gx_h dO_o) 38 fl_X9_63 rfl dX9_cutHere_21 ?_
  refine r_aload0 C hl 0 rfl dX9_cutHere_24 ?_
  refine r_get C hw _ (gx_h dO_o) 40 fl_X9_252 rfl dX9_cutHere_25 ?_
  refine r_iload0 C hl 3 rfl dX9_cutHere_28 ?_
  obtain ⟨d_ad3, e3, hf⟩ := bx hf
  refine r_iast C hw _ (gx_h dO_g38) e3 (dO G ad d_ad3 dw ++ []) (fun h => (sx_h dO_g38 (dO_s38 h))) dX9_cutHere_29 (fun H locs hw => ?_)
  refine r_aload0 C hl 0 rfl dX9_cutHere_30 ?_
  refine r_get C hw _ (gx_h dO_o) 39 fl_X9_66 rfl dX9_cutHere_31 ?_
  refine r_aload0 C hl 0 rfl dX9_cutHere_34 ?_
  refine r_get C hw _ (gx_h dO_o) 40 fl_X9_252 rfl dX9_cutHere_35 ?_
  refine r_iload C hl 4 rfl dX9_cutHere_38 ?_
  obtain ⟨d_ad4, e4, hf⟩ := bx hf
  refine r_iast C hw _ (gx_h dO_g39) e4 (dO G ad d_ad4 dw ++ []) (fun h => (sx_h dO_g39 (dO_s39 h))) dX9_cutHere_40 (fun H locs hw => ?_)
  refine r_aload0 C hl 0 rfl dX9_cutHere_41 ?_
  refine lv_dup C.1 C.2.1 dX9_cutHere_42 rfl ?_
  refine r_get C hw _ (gx_h dO_o) 40 fl_X9_252 rfl dX9_cutHere_43 ?_
  refine lv_iconst (v := 1) C.1 C.2.1 dX9_cutHere_46 (by decide) ?_
  refine lv_iadd C.1 C.2.1 dX9_cutHere_47 ?_
  obtain ⟨d_ad5, e5, hf⟩ := bx hf
  refine r_put C hw _ (gx_h dO_o) 40 fp_X9_252 rfl rfl (Nat.le_of_ble_eq_true rfl) (dO G ad d_ad5 dw ++ []) (sx_h dO_o (dO_p40 e5)) dX9_cutHere_48 (fun H locs hw => ?_)
  exact fin_v C hw (Option.some.inj hf) (fun o => (dO G ad o dw ++ [])) rfl dX9_cutHere_51
set_option maxHeartbeats 4000000 in
set_option maxRecDepth 100000 in
theorem c_X9_cutsOne (l : Launch) (G : GG) (ad : Nat → Nat) (sz : Nat) (d_ad : Pic) (dw : Int64) (x1 : Int32) (out : Int32 × Pic) (hf : f_X9_cutsOne d_ad x1 = some out) : Met l yX9_cutsOne (.code yX9_cutsOne cX9_cutsOne 4 (some .int) :: BT) ({ frames := 1, cells := 0, slots := 0, locals := 24 }) (va_Pc [.ref (ad 99), .int x1] (PreW G sz (dO G ad d_ad dw ++ []))) (Ans G out.1 (va_A (dO G ad d_ad dw ++ []) sz) (dO G ad out.2 dw ++ [])) 0 0 (va_A (dO G ad d_ad dw ++ []) sz) := by
  refine Met.into (by decide) (Nat.le_of_ble_eq_true rfl) ?_
  intro p e s m below meth c C hsz ls hl hw
  have hl : lv_has ls 4 [(0, .ref (ad 99)), (1, .int x1)] := hl
  clear hsz
  generalize va_A (dO G ad d_ad dw ++ []) sz = A at hw ⊢
  have hB_120 : ∀ (k120 : Pic → Int32 → Option (Int32 × Pic)) (hk120 : ∀ (d_ad : Pic) (v2 : Int32), k120 d_ad v2 = some out → ∀ (H : Heap) (locs : List Loc), Wd G A s H locs (dO G ad d_ad dw ++ []) → ∀ ls : Array Slot, lv_has ls 4 [(0, .ref (ad 99)), (1, .int x1), (2, .int v2)] → W p l e ({ frames := 1, cells := 0, slots := 0, locals := 24 }) s m [.ref (ad 99), .int x1].toArray below meth c H locs 0 0 (MQ below (Ans G out.1 A (dO G ad out.2 dw ++ [])) [.ref (ad 99), .int x1].toArray s 0 0 A) (F0 m 120 ls [])), ∀ (d_ad : Pic) (v2 : Int32), b_X9_cutsOne_120 x1 k120 d_ad v2 = some out → ∀ (H : Heap) (locs : List Loc), Wd G A s H locs (dO G ad d_ad dw ++ []) → ∀ ls : Array Slot, lv_has ls 4 [(0, .ref (ad 99)), (1, .int x1), (2, .int v2)] → W p l e ({ frames := 1, cells := 0, slots := 0, locals := 24 }) s m [.ref (ad 99), .int x1].toArray below meth c H locs 0 0 (MQ below (Ans G out.1 A (dO G ad out.2 dw ++ [])) [.ref (ad 99), .int x1].toArray s 0 0 A) (F0 m 120 ls []) := by
    intro k120 hk120 d_ad v2 hf H locs hw ls hl
    unfold b_X9_cutsOne_120 at hf
    refine r_aload0 C hl 0 rfl dX9_cutsOne_120 ?_
    refine r_iload0 C hl 1 rfl dX9_cutsOne_121 ?_
    refine r_iload0 C hl 2 rfl dX9_cutsOne_122 ?_
    refine lv_iconst (v := 1) C.1 C.2.1 dX9_cutsOne_123 (by decide) ?_
    refine r_iload0 C hl 2 rfl dX9_cutsOne_124 ?_
    refine lv_iadd C.1 C.2.1 dX9_cutsOne_125 ?_
    obtain ⟨u2, e2, hf⟩ := bx hf
    refine r_callVi (ws' := (dO G ad d_ad dw ++ [])) (As := [.int x1, .int v2, .int (1 + v2)]) (rest := []) C hw hl.1 kX9_isCheapest ml_X9_255 (c_X9_isCheapest l G ad _ d_ad dw x1 v2 (1 + v2) u2 e2) (CutX.take dO_f CutX.none) _ (gx_h dO_o) rfl ⟨rfl, rfl⟩ ⟨Nat.le_of_ble_eq_true rfl, Nat.le_of_ble_eq_true rfl⟩ rfl ⟨Nat.zero_le _, Nat.zero_le _⟩ rfl (Nat.le_of_ble_eq_true rfl) dX9_cutsOne_126 (fun H locs hw => ?_)
    refine lv_if_ne (tgt := 138) C.1 C.2.1 dX9_cutsOne_129 (by decide) (fun hc => ?_) (fun hc => ?_)
    · replace hf := ifn hf hc
      refine r_aload0 C hl 0 rfl dX9_cutsOne_138 ?_
      refine lv_iconst (v := 2) C.1 C.2.1 dX9_cutsOne_139 (by decide) ?_
      refine r_iload0 C hl 1 rfl dX9_cutsOne_140 ?_
      refine r_iload0 C hl 2 rfl dX9_cutsOne_141 ?_
      refine lv_iconst (v := 0) C.1 C.2.1 dX9_cutsOne_142 (by decide) ?_
      obtain ⟨u3, e3, hf⟩ := bx hf
      refine r_callVv (ws' := (dO G ad u3 dw ++ [])) (As := [.int 2, .int x1, .int v2, .int 0]) (rest := []) C hw hl.1 kX9_cutHere ml_X9_258 (c_X9_cutHere l G ad _ d_ad dw 2 x1 v2 0 u3 e3) (CutX.take dO_f CutX.none) _ (gx_h dO_o) rfl ⟨rfl, rfl⟩ ⟨Nat.le_of_ble_eq_true rfl, Nat.le_of_ble_eq_true rfl⟩ rfl ⟨Nat.zero_le _, Nat.zero_le _⟩ rfl (Nat.le_of_ble_eq_true rfl) dX9_cutsOne_143 (fun H locs hw => ?_)
      refine r_iload0 C hl 2 rfl dX9_cutsOne_146 ?_
      exact fin_i C hw (Option.some.inj hf) (fun o => o.1) (fun o => (dO G ad o.2 dw ++ [])) rfl rfl dX9_cutsOne_147
    · replace hf := ifp hf hc
      refine r_iinc C hl 2 (v2 + (-1)) [(2, .int (v2 + (-1))), (0, .ref (ad 99)), (1, .int x1)] rfl (iinc_e (by decide)) (by decide) rfl dX9_cutsOne_132 (fun ls hl => ?_)
      refine lv_goto (tgt := 120) C.1 C.2.1 dX9_cutsOne_135 (by decide) ?_
      exact hk120 d_ad (v2 + (-1)) hf _ _ hw _ (lv_sub hl [1, 2, 0] rfl)
  have hL_120 : ∀ n : Nat, ∀ (d_ad : Pic) (v2 : Int32), L_X9_cutsOne_120 x1  n d_ad v2 = some out → ∀ (H : Heap) (locs : List Loc), Wd G A s H locs (dO G ad d_ad dw ++ []) → ∀ ls : Array Slot, lv_has ls 4 [(0, .ref (ad 99)), (1, .int x1), (2, .int v2)] → W p l e ({ frames := 1, cells := 0, slots := 0, locals := 24 }) s m [.ref (ad 99), .int x1].toArray below meth c H locs 0 0 (MQ below (Ans G out.1 A (dO G ad out.2 dw ++ [])) [.ref (ad 99), .int x1].toArray s 0 0 A) (F0 m 120 ls []) := by
    intro  n
    induction n with
    | zero => intro d_ad v2 hf; cases hf
    | succ n ih => exact hB_120 _ ih
  have hB_50 : ∀ (k43 : Pic → Int32 → Option (Int32 × Pic)) (hk43 : ∀ (d_ad : Pic) (v2 : Int32), k43 d_ad v2 = some out → ∀ (H : Heap) (locs : List Loc), Wd G A s H locs (dO G ad d_ad dw ++ []) → ∀ ls : Array Slot, lv_has ls 4 [(0, .ref (ad 99)), (1, .int x1), (2, .int v2)] → W p l e ({ frames := 1, cells := 0, slots := 0, locals := 24 }) s m [.ref (ad 99), .int x1].toArray below meth c H locs 0 0 (MQ below (Ans G out.1 A (dO G ad out.2 dw ++ [])) [.ref (ad 99), .int x1].toArray s 0 0 A) (F0 m 43 ls [])) (k50 : Pic → Int32 → Int32 → Option (Int32 × Pic)) (hk50 : ∀ (d_ad : Pic) (v2 : Int32) (v3 : Int32), k50 d_ad v2 v3 = some out → ∀ (H : Heap) (locs : List Loc), Wd G A s H locs (dO G ad d_ad dw ++ []) → ∀ ls : Array Slot, lv_has ls 4 [(0, .ref (ad 99)), (1, .int x1), (2, .int v2), (3, .int v3)] → W p l e ({ frames := 1, cells := 0, slots := 0, locals := 24 }) s m [.ref (ad 99), .int x1].toArray below meth c H locs 0 0 (MQ below (Ans G out.1 A (dO G ad out.2 dw ++ [])) [.ref (ad 99), .int x1].toArray s 0 0 A) (F0 m 50 ls [])), ∀ (d_ad : Pic) (v2 : Int32) (v3 : Int32), b_X9_cutsOne_50 x1 k43 k50 d_ad v2 v3 = some out → ∀ (H : Heap) (locs : List Loc), Wd G A s H locs (dO G ad d_ad dw ++ []) → ∀ ls : Array Slot, lv_has ls 4 [(0, .ref (ad 99)), (1, .int x1), (2, .int v2), (3, .int v3)] → W p l e ({ frames := 1, cells := 0, slots := 0, locals := 24 }) s m [.ref (ad 99), .int x1].toArray below meth c H locs 0 0 (MQ below (Ans G out.1 A (dO G ad out.2 dw ++ [])) [.ref (ad 99), .int x1].toArray s 0 0 A) (F0 m 50 ls []) := by
    intro k43 hk43 k50 hk50 d_ad v2 v3 hf H locs hw ls hl
    unfold b_X9_cutsOne_50 at hf
    refine r_iload0 C hl 3 rfl dX9_cutsOne_50 ?_
    refine lv_bipush (v := 15) C.1 C.2.1 dX9_cutsOne_51 (by decide) ?_
    refine lv_icmp_gt (tgt := 95) C.1 C.2.1 dX9_cutsOne_53 (by decide) (fun hc => ?_) (fun hc => ?_)
    · replace hf := ifp hf hc
      refine r_iinc C hl 2 (v2 + (-1)) [(2, .int (v2 + (-1))), (0, .ref (ad 99)), (1, .int x1), (3, .int v3)] rfl (iinc_e (by decide)) (by decide) rfl dX9_cutsOne_95 (fun ls hl => ?_)
      refine lv_goto (tgt := 43) C.1 C.2.1 dX9_cutsOne_98 (by decide) ?_
      exact hk43 d_ad (v2 + (-1)) hf _ _ hw _ (lv_sub hl [1, 2, 0] rfl)
    · replace hf := ifn hf hc
      refine r_aload0 C hl 0 rfl dX9_cutsOne_56 ?_
      refine r_iload0 C hl 1 rfl dX9_cutsOne_57 ?_
      refine r_iload0 C hl 3 rfl dX9_cutsOne_58 ?_
      obtain ⟨u4, e4, hf⟩ := bx hf
      refine r_callVi (ws' := (dO G ad d_ad dw ++ [])) (As := [.int x1, .int v3]) (rest := []) C hw hl.1 kX9_copyAt ml_X9_249 (c_X9_copyAt l G ad _ d_ad dw x1 v3 u4 e4) (CutX.take dO_f CutX.none) _ (gx_h dO_o) rfl ⟨rfl, rfl⟩ ⟨Nat.le_of_ble_eq_true rfl, Nat.le_of_ble_eq_true rfl⟩ rfl ⟨Nat.zero_le _, Nat.zero_le _⟩ rfl (Nat.le_of_ble_eq_true rfl) dX9_cutsOne_59 (fun H locs hw => ?_)
      refine r_iload0 C hl 2 rfl dX9_cutsOne_62 ?_
      refine lv_icmp_lt (tgt := 89) C.1 C.2.1 dX9_cutsOne_63 (by decide) (fun hc => ?_) (fun hc => ?_)
      · replace hf := ifp hf hc
        refine r_iinc C hl 3 (v3 + 1) [(3, .int (v3 + 1)), (0, .ref (ad 99)), (1, .int x1), (2, .int v2)] rfl (iinc_e (by decide)) (by decide) rfl dX9_cutsOne_89 (fun ls hl => ?_)
        refine lv_goto (tgt := 50) C.1 C.2.1 dX9_cutsOne_92 (by decide) ?_
        exact hk50 d_ad v2 (v3 + 1) hf _ _ hw _ (lv_sub hl [1, 2, 3, 0] rfl)
      · replace hf := ifn hf hc
        refine r_aload0 C hl 0 rfl dX9_cutsOne_66 ?_
        refine r_iload0 C hl 1 rfl dX9_cutsOne_67 ?_
        refine r_iload0 C hl 2 rfl dX9_cutsOne_68 ?_
        refine lv_iconst (v := 3) C.1 C.2.1 dX9_cutsOne_69 (by decide) ?_
        obtain ⟨u5, e5, hf⟩ := bx hf
        refine r_callVi (ws' := (dO G ad d_ad dw ++ [])) (As := [.int x1, .int v2, .int 3]) (rest := []) C hw hl.1 kX9_isCheapest ml_X9_255 (c_X9_isCheapest l G ad _ d_ad dw x1 v2 3 u5 e5) (CutX.take dO_f CutX.none) _ (gx_h dO_o) rfl ⟨rfl, rfl⟩ ⟨Nat.le_of_ble_eq_true rfl, Nat.le_of_ble_eq_true rfl⟩ rfl ⟨Nat.zero_le _, Nat.zero_le _⟩ rfl (Nat.le_of_ble_eq_true rfl) dX9_cutsOne_70 (fun H locs hw => ?_)
        refine lv_if_ne (tgt := 79) C.1 C.2.1 dX9_cutsOne_73 (by decide) (fun hc => ?_) (fun hc => ?_)
        · replace hf := ifn hf hc
          refine r_aload0 C hl 0 rfl dX9_cutsOne_79 ?_
          refine lv_iconst (v := 1) C.1 C.2.1 dX9_cutsOne_80 (by decide) ?_
          refine r_iload0 C hl 1 rfl dX9_cutsOne_81 ?_
          refine r_iload0 C hl 2 rfl dX9_cutsOne_82 ?_
          refine r_iload0 C hl 3 rfl dX9_cutsOne_83 ?_
          obtain ⟨u6, e6, hf⟩ := bx hf
          refine r_callVv (ws' := (dO G ad u6 dw ++ [])) (As := [.int 1, .int x1, .int v2, .int v3]) (rest := []) C hw hl.1 kX9_cutHere ml_X9_258 (c_X9_cutHere l G ad _ d_ad dw 1 x1 v2 v3 u6 e6) (CutX.take dO_f CutX.none) _ (gx_h dO_o) rfl ⟨rfl, rfl⟩ ⟨Nat.le_of_ble_eq_true rfl, Nat.le_of_ble_eq_true rfl⟩ rfl ⟨Nat.zero_le _, Nat.zero_le _⟩ rfl (Nat.le_of_ble_eq_true rfl) dX9_cutsOne_84 (fun H locs hw => ?_)
          refine r_iload0 C hl 2 rfl dX9_cutsOne_87 ?_
          exact fin_i C hw (Option.some.inj hf) (fun o => o.1) (fun o => (dO G ad o.2 dw ++ [])) rfl rfl dX9_cutsOne_88
        · replace hf := ifp hf hc
          refine lv_goto (tgt := 89) C.1 C.2.1 dX9_cutsOne_76 (by decide) ?_
          refine r_iinc C hl 3 (v3 + 1) [(3, .int (v3 + 1)), (0, .ref (ad 99)), (1, .int x1), (2, .int v2)] rfl (iinc_e (by decide)) (by decide) rfl dX9_cutsOne_89 (fun ls hl => ?_)
          refine lv_goto (tgt := 50) C.1 C.2.1 dX9_cutsOne_92 (by decide) ?_
          exact hk50 d_ad v2 (v3 + 1) hf _ _ hw _ (lv_sub hl [1, 2, 3, 0] rfl)
  have hL_50 : ∀ (k43 : Pic → Int32 → Option (Int32 × Pic)) (hk43 : ∀ (d_ad : Pic) (v2 : Int32), k43 d_ad v2 = some out → ∀ (H : Heap) (locs : List Loc), Wd G A s H locs (dO G ad d_ad dw ++ []) → ∀ ls : Array Slot, lv_has ls 4 [(0, .ref (ad 99)), (1, .int x1), (2, .int v2)] → W p l e ({ frames := 1, cells := 0, slots := 0, locals := 24 }) s m [.ref (ad 99), .int x1].toArray below meth c H locs 0 0 (MQ below (Ans G out.1 A (dO G ad out.2 dw ++ [])) [.ref (ad 99), .int x1].toArray s 0 0 A) (F0 m 43 ls [])), ∀ n : Nat, ∀ (d_ad : Pic) (v2 : Int32) (v3 : Int32), L_X9_cutsOne_50 x1 k43 n d_ad v2 v3 = some out → ∀ (H : Heap) (locs : List Loc), Wd G A s H locs (dO G ad d_ad dw ++ []) → ∀ ls : Array Slot, lv_has ls 4 [(0, .ref (ad 99)), (1, .int x1), (2, .int v2), (3, .int v3)] → W p l e ({ frames := 1, cells := 0, slots := 0, locals := 24 }) s m [.ref (ad 99), .int x1].toArray below meth c H locs 0 0 (MQ below (Ans G out.1 A (dO G ad out.2 dw ++ [])) [.ref (ad 99), .int x1].toArray s 0 0 A) (F0 m 50 ls []) := by
    intro k43 hk43 n
    induction n with
    | zero => intro d_ad v2 v3 hf; cases hf
    | succ n ih => exact hB_50 k43 hk43 _ ih
  have hB_43 : ∀ (k43 : Pic → Int32 → Option (Int32 × Pic)) (hk43 : ∀ (d_ad : Pic) (v2 : Int32), k43 d_ad v2 = some out → ∀ (H : Heap) (locs : List Loc), Wd G A s H locs (dO G ad d_ad dw ++ []) → ∀ ls : Array Slot, lv_has ls 4 [(0, .ref (ad 99)), (1, .int x1), (2, .int v2)] → W p l e ({ frames := 1, cells := 0, slots := 0, locals := 24 }) s m [.ref (ad 99), .int x1].toArray below meth c H locs 0 0 (MQ below (Ans G out.1 A (dO G ad out.2 dw ++ [])) [.ref (ad 99), .int x1].toArray s 0 0 A) (F0 m 43 ls [])), ∀ (d_ad : Pic) (v2 : Int32), b_X9_cutsOne_43 x1 k43 d_ad v2 = some out → ∀ (H : Heap) (locs : List Loc), Wd G A s H locs (dO G ad d_ad dw ++ []) → ∀ ls : Array Slot, lv_has ls 4 [(0, .ref (ad 99)), (1, .int x1), (2, .int v2)] → W p l e ({ frames := 1, cells := 0, slots := 0, locals := 24 }) s m [.ref (ad 99), .int x1].toArray below meth c H locs 0 0 (MQ below (Ans G out.1 A (dO G ad out.2 dw ++ [])) [.ref (ad 99), .int x1].toArray s 0 0 A) (F0 m 43 ls []) := by
    intro k43 hk43 d_ad v2 hf H locs hw ls hl
    unfold b_X9_cutsOne_43 at hf
    refine r_iload0 C hl 2 rfl dX9_cutsOne_43 ?_
    refine lv_iconst (v := 1) C.1 C.2.1 dX9_cutsOne_44 (by decide) ?_
    refine lv_icmp_le (tgt := 101) C.1 C.2.1 dX9_cutsOne_45 (by decide) (fun hc => ?_) (fun hc => ?_)
    · replace hf := ifp hf hc
      refine lv_bipush (v := 16) C.1 C.2.1 dX9_cutsOne_101 (by decide) ?_
      refine r_iload0 C hl 1 rfl dX9_cutsOne_103 ?_
      refine lv_isub C.1 C.2.1 dX9_cutsOne_104 ?_
      refine lv_bipush (v := 8) C.1 C.2.1 dX9_cutsOne_105 (by decide) ?_
      refine lv_icmp_ge (tgt := 117) C.1 C.2.1 dX9_cutsOne_107 (by decide) (fun hc => ?_) (fun hc => ?_)
      · replace hf := ifp hf hc
        refine lv_bipush (v := 8) C.1 C.2.1 dX9_cutsOne_117 (by decide) ?_
        refine r_istore0 C hl [(2, .int 8), (0, .ref (ad 99)), (1, .int x1)] (by decide) rfl dX9_cutsOne_119 (fun ls hl => ?_)
        exact hL_120  FU d_ad 8 hf _ _ hw _ (lv_sub hl [1, 2, 0] rfl)
      · replace hf := ifn hf hc
        refine lv_bipush (v := 16) C.1 C.2.1 dX9_cutsOne_110 (by decide) ?_
        refine r_iload0 C hl 1 rfl dX9_cutsOne_112 ?_
        refine lv_isub C.1 C.2.1 dX9_cutsOne_113 ?_
        refine lv_goto (tgt := 119) C.1 C.2.1 dX9_cutsOne_114 (by decide) ?_
        refine r_istore0 C hl [(2, .int (16 - x1)), (0, .ref (ad 99)), (1, .int x1)] (by decide) rfl dX9_cutsOne_119 (fun ls hl => ?_)
        exact hL_120  FU d_ad (16 - x1) hf _ _ hw _ (lv_sub hl [1, 2, 0] rfl)
    · replace hf := ifn hf hc
      refine lv_iconst (v := 2) C.1 C.2.1 dX9_cutsOne_48 (by decide) ?_
      refine r_istore0 C hl [(3, .int 2), (0, .ref (ad 99)), (1, .int x1), (2, .int v2)] (by decide) rfl dX9_cutsOne_49 (fun ls hl => ?_)
      exact hL_50 k43 hk43 FU d_ad v2 2 hf _ _ hw _ (lv_sub hl [1, 2, 3, 0] rfl)
  have hL_43 : ∀ n : Nat, ∀ (d_ad : Pic) (v2 : Int32), L_X9_cutsOne_43 x1  n d_ad v2 = some out → ∀ (H : Heap) (locs : List Loc), Wd G A s H locs (dO G ad d_ad dw ++ []) → ∀ ls : Array Slot, lv_has ls 4 [(0, .ref (ad 99)), (1, .int x1), (2, .int v2)] → W p l e ({ frames := 1, cells := 0, slots := 0, locals := 24 }) s m [.ref (ad 99), .int x1].toArray below meth c H locs 0 0 (MQ below (Ans G out.1 A (dO G ad out.2 dw ++ [])) [.ref (ad 99), .int x1].toArray s 0 0 A) (F0 m 43 ls []) := by
    intro  n
    induction n with
    | zero => intro d_ad v2 hf; cases hf
    | succ n ih => exact hB_43 _ ih
  have hB_6 : ∀ (k6 : Pic → Int32 → Option (Int32 × Pic)) (hk6 : ∀ (d_ad : Pic) (v2 : Int32), k6 d_ad v2 = some out → ∀ (H : Heap) (locs : List Loc), Wd G A s H locs (dO G ad d_ad dw ++ []) → ∀ ls : Array Slot, lv_has ls 4 [(0, .ref (ad 99)), (1, .int x1), (2, .int v2)] → W p l e ({ frames := 1, cells := 0, slots := 0, locals := 24 }) s m [.ref (ad 99), .int x1].toArray below meth c H locs 0 0 (MQ below (Ans G out.1 A (dO G ad out.2 dw ++ [])) [.ref (ad 99), .int x1].toArray s 0 0 A) (F0 m 6 ls [])), ∀ (d_ad : Pic) (v2 : Int32), b_X9_cutsOne_6 x1 k6 d_ad v2 = some out → ∀ (H : Heap) (locs : List Loc), Wd G A s H locs (dO G ad d_ad dw ++ []) → ∀ ls : Array Slot, lv_has ls 4 [(0, .ref (ad 99)), (1, .int x1), (2, .int v2)] → W p l e ({ frames := 1, cells := 0, slots := 0, locals := 24 }) s m [.ref (ad 99), .int x1].toArray below meth c H locs 0 0 (MQ below (Ans G out.1 A (dO G ad out.2 dw ++ [])) [.ref (ad 99), .int x1].toArray s 0 0 A) (F0 m 6 ls []) := by
    intro k6 hk6 d_ad v2 hf H locs hw ls hl
    unfold b_X9_cutsOne_6 at hf
    refine r_iload0 C hl 2 rfl dX9_cutsOne_6 ?_
    refine lv_iconst (v := 1) C.1 C.2.1 dX9_cutsOne_7 (by decide) ?_
    refine lv_icmp_le (tgt := 40) C.1 C.2.1 dX9_cutsOne_8 (by decide) (fun hc => ?_) (fun hc => ?_)
    · replace hf := ifp hf hc
      refine lv_bipush (v := 8) C.1 C.2.1 dX9_cutsOne_40 (by decide) ?_
      refine r_istore0 C hl [(2, .int 8), (0, .ref (ad 99)), (1, .int x1)] (by decide) rfl dX9_cutsOne_42 (fun ls hl => ?_)
      exact hL_43  FU d_ad 8 hf _ _ hw _ (lv_sub hl [1, 2, 0] rfl)
    · replace hf := ifn hf hc
      refine r_aload0 C hl 0 rfl dX9_cutsOne_11 ?_
      refine r_iload0 C hl 1 rfl dX9_cutsOne_12 ?_
      refine r_iload0 C hl 2 rfl dX9_cutsOne_13 ?_
      refine lv_iconst (v := 2) C.1 C.2.1 dX9_cutsOne_14 (by decide) ?_
      obtain ⟨u7, e7, hf⟩ := bx hf
      refine r_callVi (ws' := (dO G ad d_ad dw ++ [])) (As := [.int x1, .int v2, .int 2]) (rest := []) C hw hl.1 kX9_isCheapest ml_X9_255 (c_X9_isCheapest l G ad _ d_ad dw x1 v2 2 u7 e7) (CutX.take dO_f CutX.none) _ (gx_h dO_o) rfl ⟨rfl, rfl⟩ ⟨Nat.le_of_ble_eq_true rfl, Nat.le_of_ble_eq_true rfl⟩ rfl ⟨Nat.zero_le _, Nat.zero_le _⟩ rfl (Nat.le_of_ble_eq_true rfl) dX9_cutsOne_15 (fun H locs hw => ?_)
      refine lv_if_ne (tgt := 24) C.1 C.2.1 dX9_cutsOne_18 (by decide) (fun hc => ?_) (fun hc => ?_)
      · replace hf := ifn hf hc
        refine r_aload0 C hl 0 rfl dX9_cutsOne_24 ?_
        refine lv_iconst (v := 0) C.1 C.2.1 dX9_cutsOne_25 (by decide) ?_
        refine r_iload0 C hl 1 rfl dX9_cutsOne_26 ?_
        refine r_iload0 C hl 2 rfl dX9_cutsOne_27 ?_
        refine lv_iconst (v := 0) C.1 C.2.1 dX9_cutsOne_28 (by decide) ?_
        obtain ⟨u8, e8, hf⟩ := bx hf
        refine r_callVv (ws' := (dO G ad u8 dw ++ [])) (As := [.int 0, .int x1, .int v2, .int 0]) (rest := []) C hw hl.1 kX9_cutHere ml_X9_258 (c_X9_cutHere l G ad _ d_ad dw 0 x1 v2 0 u8 e8) (CutX.take dO_f CutX.none) _ (gx_h dO_o) rfl ⟨rfl, rfl⟩ ⟨Nat.le_of_ble_eq_true rfl, Nat.le_of_ble_eq_true rfl⟩ rfl ⟨Nat.zero_le _, Nat.zero_le _⟩ rfl (Nat.le_of_ble_eq_true rfl) dX9_cutsOne_29 (fun H locs hw => ?_)
        refine r_iload0 C hl 2 rfl dX9_cutsOne_32 ?_
        exact fin_i C hw (Option.some.inj hf) (fun o => o.1) (fun o => (dO G ad o.2 dw ++ [])) rfl rfl dX9_cutsOne_33
      · replace hf := ifp hf hc
        refine lv_goto (tgt := 34) C.1 C.2.1 dX9_cutsOne_21 (by decide) ?_
        refine r_iinc C hl 2 (v2 + (-1)) [(2, .int (v2 + (-1))), (0, .ref (ad 99)), (1, .int x1)] rfl (iinc_e (by decide)) (by decide) rfl dX9_cutsOne_34 (fun ls hl => ?_)
        refine lv_goto (tgt := 6) C.1 C.2.1 dX9_cutsOne_37 (by decide) ?_
        exact hk6 d_ad (v2 + (-1)) hf _ _ hw _ (lv_sub hl [1, 2, 0] rfl)
  have hL_6 : ∀ n : Nat, ∀ (d_ad : Pic) (v2 : Int32), L_X9_cutsOne_6 x1  n d_ad v2 = some out → ∀ (H : Heap) (locs : List Loc), Wd G A s H locs (dO G ad d_ad dw ++ []) → ∀ ls : Array Slot, lv_has ls 4 [(0, .ref (ad 99)), (1, .int x1), (2, .int v2)] → W p l e ({ frames := 1, cells := 0, slots := 0, locals := 24 }) s m [.ref (ad 99), .int x1].toArray below meth c H locs 0 0 (MQ below (Ans G out.1 A (dO G ad out.2 dw ++ [])) [.ref (ad 99), .int x1].toArray s 0 0 A) (F0 m 6 ls []) := by
    intro  n
    induction n with
    | zero => intro d_ad v2 hf; cases hf
    | succ n ih => exact hB_6 _ ih
  unfold f_X9_cutsOne at hf
  refine r_aload0 C hl 0 rfl dX9_cutsOne_0 ?_
  refine r_iload0 C hl 1 rfl dX9_cutsOne_1 ?_
  obtain ⟨u1, e1, hf⟩ := bx hf
  refine r_callVi (ws' := (dO G ad d_ad dw ++ [])) (As := [.int x1]) (rest := []) C hw hl.1 kX9_runAt ml_X9_242 (c_X9_runAt l G ad _ d_ad dw x1 u1 e1) (CutX.take dO_f CutX.none) _ (gx_h dO_o) rfl ⟨rfl, rfl⟩ ⟨Nat.le_of_ble_eq_true rfl, Nat.le_of_ble_eq_true rfl⟩ rfl ⟨Nat.zero_le _, Nat.zero_le _⟩ rfl (Nat.le_of_ble_eq_true rfl) dX9_cutsOne_2 (fun H locs hw => ?_)
  refine r_istore0 C hl [(2, .int u1), (0, .ref (ad 99)), (1, .int x1)] (by decide) rfl dX9_cutsOne_5 (fun ls hl => ?_)
  exact hL_6  FU d_ad u1 hf _ _ hw _ (lv_sub hl [1, 2, 0] rfl)
set_option maxHeartbeats 4000000 in
set_option maxRecDepth 100000 in
theorem c_X9_cutAll (l : Launch) (G : GG) (ad : Nat → Nat) (sz : Nat) (d_ad : Pic) (dw : Int64) (x1 : Int32) (out : Int32 × Pic) (hf : f_X9_cutAll d_ad x1 = some out) : Met l yX9_cutAll (.code yX9_cutAll cX9_cutAll 3 (some .int) :: BT) ({ frames := 2, cells := 0, slots := 0, locals := 48 }) (va_Pc [.ref (ad 99), .int x1] (PreW G sz (dO G ad d_ad dw ++ []))) (Ans G out.1 (va_A (dO G ad d_ad dw ++ []) sz) (dO G ad out.2 dw ++ [])) 0 0 (va_A (dO G ad d_ad dw ++ []) sz) := by
  refine Met.into (by decide) (Nat.le_of_ble_eq_true rfl) ?_
  intro p e s m below meth c C hsz ls hl hw
  have hl : lv_has ls 3 [(0, .ref (ad 99)), (1, .int x1)] := hl
  clear hsz
  generalize va_A (dO G ad d_ad dw ++ []) sz = A at hw ⊢
  have hB_16 : ∀ (k16 : Pic → Int32 → Option (Int32 × Pic)) (hk16 : ∀ (d_ad : Pic) (v2 : Int32), k16 d_ad v2 = some out → ∀ (H : Heap) (locs : List Loc), Wd G A s H locs (dO G ad d_ad dw ++ []) → ∀ ls : Array Slot, lv_has ls 3 [(0, .ref (ad 99)), (2, .int v2)] → W p l e ({ frames := 2, cells := 0, slots := 0, locals := 48 }) s m [.ref (ad 99), .int x1].toArray below meth c H locs 0 0 (MQ below (Ans G out.1 A (dO G ad out.2 dw ++ [])) [.ref (ad 99), .int x1].toArray s 0 0 A) (F0 m 16 ls [])), ∀ (d_ad : Pic) (v2 : Int32), b_X9_cutAll_16 x1 k16 d_ad v2 = some out → ∀ (H : Heap) (locs : List Loc), Wd G A s H locs (dO G ad d_ad dw ++ []) → ∀ ls : Array Slot, lv_has ls 3 [(0, .ref (ad 99)), (2, .int v2)] → W p l e ({ frames := 2, cells := 0, slots := 0, locals := 48 }) s m [.ref (ad 99), .int x1].toArray below meth c H locs 0 0 (MQ below (Ans G out.1 A (dO G ad out.2 dw ++ [])) [.ref (ad 99), .int x1].toArray s 0 0 A) (F0 m 16 ls []) := by
    intro k16 hk16 d_ad v2 hf H locs hw ls hl
    unfold b_X9_cutAll_16 at hf
    refine r_iload0 C hl 1 rfl dX9_cutAll_16 ?_
    refine lv_bipush (v := 16) C.1 C.2.1 dX9_cutAll_17 (by decide) ?_
    refine lv_icmp_ge (tgt := 33) C.1 C.2.1 dX9_cutAll_19 (by decide) (fun hc => ?_) (fun hc => ?_)
    · replace hf := ifp hf hc
      refine r_aload0 C hl 0 rfl dX9_cutAll_33 ?_
      refine r_get C hw _ (gx_h dO_o) 34 fl_X9_51 rfl dX9_cutAll_34 ?_
      refine lv_iconst (v := 0) C.1 C.2.1 dX9_cutAll_37 (by decide) ?_
      obtain ⟨v4_, e4, hf⟩ := bx hf
      refine r_iald C hw _ (gx_h dO_g34) e4 dX9_cutAll_38 ?_
      exact fin_i C hw (Option.some.inj hf) (fun o => o.1) (fun o => (dO G ad o.2 dw ++ [])) rfl rfl dX9_cutAll_39
    · replace hf := ifn hf hc
      refine r_iload0 C hl 1 rfl dX9_cutAll_22 ?_
      refine r_aload0 C hl 0 rfl dX9_cutAll_23 ?_
      refine r_iload0 C hl 1 rfl dX9_cutAll_24 ?_
      obtain ⟨u5, e5, hf⟩ := bx hf
      refine r_callVi (ws' := (dO G ad u5.2 dw ++ [])) (As := [.int v2]) (rest := [.int v2]) C hw hl.1 kX9_cutsOne ml_X9_268 (c_X9_cutsOne l G ad _ d_ad dw v2 u5 e5) (CutX.take dO_f CutX.none) _ (gx_h dO_o) rfl ⟨rfl, rfl⟩ ⟨Nat.le_of_ble_eq_true rfl, Nat.le_of_ble_eq_true rfl⟩ rfl ⟨Nat.zero_le _, Nat.zero_le _⟩ rfl (Nat.le_of_ble_eq_true rfl) dX9_cutAll_25 (fun H locs hw => ?_)
      refine lv_iadd C.1 C.2.1 dX9_cutAll_28 ?_
      refine r_istore0 C hl [(2, .int (v2 + u5.1)), (0, .ref (ad 99))] (by decide) rfl dX9_cutAll_29 (fun ls hl => ?_)
      refine lv_goto (tgt := 16) C.1 C.2.1 dX9_cutAll_30 (by decide) ?_
      exact hk16 u5.2 (v2 + u5.1) hf _ _ hw _ (lv_sub hl [1, 0] rfl)
  have hL_16 : ∀ n : Nat, ∀ (d_ad : Pic) (v2 : Int32), L_X9_cutAll_16 x1  n d_ad v2 = some out → ∀ (H : Heap) (locs : List Loc), Wd G A s H locs (dO G ad d_ad dw ++ []) → ∀ ls : Array Slot, lv_has ls 3 [(0, .ref (ad 99)), (2, .int v2)] → W p l e ({ frames := 2, cells := 0, slots := 0, locals := 48 }) s m [.ref (ad 99), .int x1].toArray below meth c H locs 0 0 (MQ below (Ans G out.1 A (dO G ad out.2 dw ++ [])) [.ref (ad 99), .int x1].toArray s 0 0 A) (F0 m 16 ls []) := by
    intro  n
    induction n with
    | zero => intro d_ad v2 hf; cases hf
    | succ n ih => exact hB_16 _ ih
  unfold f_X9_cutAll at hf
  refine r_aload0 C hl 0 rfl dX9_cutAll_0 ?_
  refine r_iload0 C hl 1 rfl dX9_cutAll_1 ?_
  obtain ⟨u1, e1, hf⟩ := bx hf
  refine r_callVv (ws' := (dO G ad u1 dw ++ [])) (As := [.int x1]) (rest := []) C hw hl.1 kX9_takes ml_X9_262 (c_X9_takes l G ad _ d_ad dw x1 u1 e1) (CutX.take dO_f CutX.none) _ (gx_h dO_o) rfl ⟨rfl, rfl⟩ ⟨Nat.le_of_ble_eq_true rfl, Nat.le_of_ble_eq_true rfl⟩ rfl ⟨Nat.zero_le _, Nat.zero_le _⟩ rfl (Nat.le_of_ble_eq_true rfl) dX9_cutAll_2 (fun H locs hw => ?_)
  refine r_aload0 C hl 0 rfl dX9_cutAll_5 ?_
  obtain ⟨u2, e2, hf⟩ := bx hf
  refine r_callVv (ws' := (dO G ad u2 dw ++ [])) (As := []) (rest := []) C hw hl.1 kX9_laysLeast ml_X9_265 (c_X9_laysLeast l G ad _ u1 dw u2 e2) (CutX.take dO_f CutX.none) _ (gx_h dO_o) rfl ⟨rfl, rfl⟩ ⟨Nat.le_of_ble_eq_true rfl, Nat.le_of_ble_eq_true rfl⟩ rfl ⟨Nat.zero_le _, Nat.zero_le _⟩ rfl (Nat.le_of_ble_eq_true rfl) dX9_cutAll_6 (fun H locs hw => ?_)
  refine r_aload0 C hl 0 rfl dX9_cutAll_9 ?_
  refine lv_iconst (v := 0) C.1 C.2.1 dX9_cutAll_10 (by decide) ?_
  obtain ⟨d_ad3, e3, hf⟩ := bx hf
  refine r_put C hw _ (gx_h dO_o) 40 fp_X9_252 rfl rfl (Nat.le_of_ble_eq_true rfl) (dO G ad d_ad3 dw ++ []) (sx_h dO_o (dO_p40 e3)) dX9_cutAll_11 (fun H locs hw => ?_)
  refine lv_iconst (v := 0) C.1 C.2.1 dX9_cutAll_14 (by decide) ?_
  refine r_istore0 C hl [(2, .int 0), (0, .ref (ad 99)), (1, .int x1)] (by decide) rfl dX9_cutAll_15 (fun ls hl => ?_)
  exact hL_16  FU d_ad3 0 hf _ _ hw _ (lv_sub hl [1, 0] rfl)
set_option maxHeartbeats 4000000 in
set_option maxRecDepth 100000 in
theorem c_X9_areAlike (l : Launch) (G : GG) (ad : Nat → Nat) (sz : Nat) (d_ad : Pic) (dw : Int64) (x1 : Int32) (out : Int32 × Pic) (hf : f_X9_areAlike d_ad x1 = some out) : Met l yX9_areAlike (.code yX9_areAlike cX9_areAlike 2 (some .boolean) :: BT) ({ frames := 1, cells := 0, slots := 0, locals := 22 }) (va_Pc [.ref (ad 99), .int x1] (PreW G sz (dO G ad d_ad dw ++ []))) (Ans G out.1 (va_A (dO G ad d_ad dw ++ []) sz) (dO G ad out.2 dw ++ [])) 0 0 (va_A (dO G ad d_ad dw ++ []) sz) := by
  refine Met.into (by decide) (Nat.le_of_ble_eq_true rfl) ?_
  intro p e s m below meth c C hsz ls hl hw
  have hl : lv_has ls 2 [(0, .ref (ad 99)), (1, .int x1)] := hl
  clear hsz
  generalize va_A (dO G ad d_ad dw ++ []) sz = A at hw ⊢
  unfold f_X9_areAlike at hf
  refine r_aload0 C hl 0 rfl dX9_areAlike_0 ?_
  refine r_iload0 C hl 1 rfl dX9_areAlike_1 ?_
  obtain ⟨u1, e1, hf⟩ := bx hf
  refine r_callVv (ws' := (dO G ad u1 dw ++ [])) (As := [.int x1]) (rest := []) C hw hl.1 kX9_takes ml_X9_262 (c_X9_takes l G ad _ d_ad dw x1 u1 e1) (CutX.take dO_f CutX.none) _ (gx_h dO_o) rfl ⟨rfl, rfl⟩ ⟨Nat.le_of_ble_eq_true rfl, Nat.le_of_ble_eq_true rfl⟩ rfl ⟨Nat.zero_le _, Nat.zero_le _⟩ rfl (Nat.le_of_ble_eq_true rfl) dX9_areAlike_2 (fun H locs hw => ?_)
  refine r_aload0 C hl 0 rfl dX9_areAlike_5 ?_
  refine lv_iconst (v := 0) C.1 C.2.1 dX9_areAlike_6 (by decide) ?_
  obtain ⟨u2, e2, hf⟩ := bx hf
  refine r_callVi (ws' := (dO G ad u1 dw ++ [])) (As := [.int 0]) (rest := []) C hw hl.1 kX9_runAt ml_X9_242 (c_X9_runAt l G ad _ u1 dw 0 u2 e2) (CutX.take dO_f CutX.none) _ (gx_h dO_o) rfl ⟨rfl, rfl⟩ ⟨Nat.le_of_ble_eq_true rfl, Nat.le_of_ble_eq_true rfl⟩ rfl ⟨Nat.zero_le _, Nat.zero_le _⟩ rfl (Nat.le_of_ble_eq_true rfl) dX9_areAlike_7 (fun H locs hw => ?_)
  refine lv_bipush (v := 16) C.1 C.2.1 dX9_areAlike_10 (by decide) ?_
  refine lv_icmp_ne (tgt := 19) C.1 C.2.1 dX9_areAlike_12 (by decide) (fun hc => ?_) (fun hc => ?_)
  · replace hf := ifn hf hc
    refine lv_iconst (v := 0) C.1 C.2.1 dX9_areAlike_19 (by decide) ?_
    exact fin_z C hw (by decide) (Option.some.inj hf) (fun o => o.1) (fun o => (dO G ad o.2 dw ++ [])) rfl rfl dX9_areAlike_20
  · replace hf := ifp hf hc
    refine lv_iconst (v := 1) C.1 C.2.1 dX9_areAlike_15 (by decide) ?_
    refine lv_goto (tgt := 20) C.1 C.2.1 dX9_areAlike_16 (by decide) ?_
    exact fin_z C hw (by decide) (Option.some.inj hf) (fun o => o.1) (fun o => (dO G ad o.2 dw ++ [])) rfl rfl dX9_areAlike_20
