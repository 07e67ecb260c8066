set_option maxHeartbeats 4000000 in
set_option maxRecDepth 100000 in
theorem c_X9_isClass (l : Launch) (G : GG) (ad : Nat → Nat) (sz : Nat) (d_ad : Pic) (dw : Int64) (x1 : Int32) (out : Int32) (hf : f_X9_isClass d_ad x1 = some out) : Met l yX9_isClass (.code yX9_isClass cX9_isClass 2 (some .boolean) :: BT) ({ frames := 1, cells := 0, slots := 0, locals := 22 }) (va_Pc [.ref (ad 99), .int x1] (PreW G sz (dO G ad d_ad dw ++ []))) (Ans G out (va_A (dO G ad d_ad dw ++ []) sz) (dO G ad d_ad dw ++ [])) 0 0 (va_A (dO G ad d_ad dw ++ []) sz) := by
  refine Met.into (by decide) (Nat.le_of_ble_eq_true rfl) ?_
  intro p e s m below meth c C hsz ls hl hw
  have hl : lv_has ls 2 [(0, .ref (ad 99)), (1, .int x1)] := hl
  clear hsz
  generalize va_A (dO G ad d_ad dw ++ []) sz = A at hw ⊢
  unfold f_X9_isClass at hf
  refine r_aload0 C hl 0 rfl dX9_isClass_0 ?_
  refine r_get C hw _ (gx_h dO_o) 19 fl_X9_225 rfl dX9_isClass_1 ?_
  refine lv_if_eq (tgt := 30) C.1 C.2.1 dX9_isClass_4 (by decide) (fun hc => ?_) (fun hc => ?_)
  · replace hf := ifp hf hc
    refine lv_iconst (v := 0) C.1 C.2.1 dX9_isClass_30 (by decide) ?_
    exact fin_z C hw (by decide) (Option.some.inj hf) (fun o => o) (fun o => (dO G ad d_ad dw ++ [])) rfl rfl dX9_isClass_31
  · replace hf := ifn hf hc
    refine r_iload0 C hl 1 rfl dX9_isClass_7 ?_
    refine lv_iconst (v := 1) C.1 C.2.1 dX9_isClass_8 (by decide) ?_
    refine lv_bipush (v := 16) C.1 C.2.1 dX9_isClass_9 (by decide) ?_
    obtain ⟨u1, e1, hf⟩ := bx hf
    refine r_callSi (ws' := (dO G ad d_ad dw ++ [])) (As := [.int x1, .int 1, .int 16]) (rest := []) C hw hl.1 kX9_in ml_X9_100 (c_X9_in l G _ x1 1 16 u1 e1) CutX.none ⟨rfl, rfl⟩ ⟨Nat.le_of_ble_eq_true rfl, Nat.le_of_ble_eq_true rfl⟩ rfl ⟨Nat.zero_le _, Nat.zero_le _⟩ rfl (Nat.le_of_ble_eq_true rfl) dX9_isClass_11 (fun H locs hw => ?_)
    refine lv_if_eq (tgt := 30) C.1 C.2.1 dX9_isClass_14 (by decide) (fun hc => ?_) (fun hc => ?_)
    · replace hf := ifp hf hc
      refine lv_iconst (v := 0) C.1 C.2.1 dX9_isClass_30 (by decide) ?_
      exact fin_z C hw (by decide) (Option.some.inj hf) (fun o => o) (fun o => (dO G ad d_ad dw ++ [])) rfl rfl dX9_isClass_31
    · replace hf := ifn hf hc
      refine r_iload0 C hl 1 rfl dX9_isClass_17 ?_
      refine r_aload0 C hl 0 rfl dX9_isClass_18 ?_
      refine r_get C hw _ (gx_h dO_o) 3 fl_X9_229 rfl dX9_isClass_19 ?_
      obtain ⟨v2_, e2, hf⟩ := bx hf
      refine r_irem C e2 dX9_isClass_22 ?_
      refine lv_if_ne (tgt := 30) C.1 C.2.1 dX9_isClass_23 (by decide) (fun hc => ?_) (fun hc => ?_)
      · replace hf := ifn hf hc
        refine lv_iconst (v := 0) C.1 C.2.1 dX9_isClass_30 (by decide) ?_
        exact fin_z C hw (by decide) (Option.some.inj hf) (fun o => o) (fun o => (dO G ad d_ad dw ++ [])) rfl rfl dX9_isClass_31
      · replace hf := ifp hf hc
        refine lv_iconst (v := 1) C.1 C.2.1 dX9_isClass_26 (by decide) ?_
        refine lv_goto (tgt := 31) C.1 C.2.1 dX9_isClass_27 (by decide) ?_
        exact fin_z C hw (by decide) (Option.some.inj hf) (fun o => o) (fun o => (dO G ad d_ad dw ++ [])) rfl rfl dX9_isClass_31
set_option maxHeartbeats 4000000 in
set_option maxRecDepth 100000 in
theorem c_X9_isZone (l : Launch) (G : GG) (ad : Nat → Nat) (sz : Nat) (d_ad : Pic) (dw : Int64) (x1 : Int32) (out : Int32) (hf : f_X9_isZone d_ad x1 = some out) : Met l yX9_isZone (.code yX9_isZone cX9_isZone 2 (some .boolean) :: BT) ({ frames := 1, cells := 0, slots := 0, locals := 22 }) (va_Pc [.ref (ad 99), .int x1] (PreW G sz (dO G ad d_ad dw ++ []))) (Ans G out (va_A (dO G ad d_ad dw ++ []) sz) (dO G ad d_ad dw ++ [])) 0 0 (va_A (dO G ad d_ad dw ++ []) sz) := by
  refine Met.into (by decide) (Nat.le_of_ble_eq_true rfl) ?_
  intro p e s m below meth c C hsz ls hl hw
  have hl : lv_has ls 2 [(0, .ref (ad 99)), (1, .int x1)] := hl
  clear hsz
  generalize va_A (dO G ad d_ad dw ++ []) sz = A at hw ⊢
  unfold f_X9_isZone at hf
  refine r_aload0 C hl 0 rfl dX9_isZone_0 ?_
  refine r_get C hw _ (gx_h dO_o) 19 fl_X9_225 rfl dX9_isZone_1 ?_
  refine lv_if_eq (tgt := 34) C.1 C.2.1 dX9_isZone_4 (by decide) (fun hc => ?_) (fun hc => ?_)
  · replace hf := ifp hf hc
    refine lv_iconst (v := 0) C.1 C.2.1 dX9_isZone_34 (by decide) ?_
    exact fin_z C hw (by decide) (Option.some.inj hf) (fun o => o) (fun o => (dO G ad d_ad dw ++ [])) rfl rfl dX9_isZone_35
  · replace hf := ifn hf hc
    refine r_iload0 C hl 1 rfl dX9_isZone_7 ?_
    refine lv_iconst (v := 0) C.1 C.2.1 dX9_isZone_8 (by decide) ?_
    refine lv_bipush (v := 23) C.1 C.2.1 dX9_isZone_9 (by decide) ?_
    obtain ⟨u1, e1, hf⟩ := bx hf
    refine r_callSi (ws' := (dO G ad d_ad dw ++ [])) (As := [.int x1, .int 0, .int 23]) (rest := []) C hw hl.1 kX9_in ml_X9_100 (c_X9_in l G _ x1 0 23 u1 e1) CutX.none ⟨rfl, rfl⟩ ⟨Nat.le_of_ble_eq_true rfl, Nat.le_of_ble_eq_true rfl⟩ rfl ⟨Nat.zero_le _, Nat.zero_le _⟩ rfl (Nat.le_of_ble_eq_true rfl) dX9_isZone_11 (fun H locs hw => ?_)
    refine lv_if_eq (tgt := 34) C.1 C.2.1 dX9_isZone_14 (by decide) (fun hc => ?_) (fun hc => ?_)
    · replace hf := ifp hf hc
      refine lv_iconst (v := 0) C.1 C.2.1 dX9_isZone_34 (by decide) ?_
      exact fin_z C hw (by decide) (Option.some.inj hf) (fun o => o) (fun o => (dO G ad d_ad dw ++ [])) rfl rfl dX9_isZone_35
    · replace hf := ifn hf hc
      refine r_aload0 C hl 0 rfl dX9_isZone_17 ?_
      refine r_get C hw _ (gx_h dO_o) 20 fl_X9_35 rfl dX9_isZone_18 ?_
      refine lv_sipush (v := 796) C.1 C.2.1 dX9_isZone_21 (by decide) ?_
      refine r_iload0 C hl 1 rfl dX9_isZone_24 ?_
      refine lv_iadd C.1 C.2.1 dX9_isZone_25 ?_
      obtain ⟨v2_, e2, hf⟩ := bx hf
      refine r_iald C hw _ (gx_h dO_g20) e2 dX9_isZone_26 ?_
      refine lv_if_le (tgt := 34) C.1 C.2.1 dX9_isZone_27 (by decide) (fun hc => ?_) (fun hc => ?_)
      · replace hf := ifp hf hc
        refine lv_iconst (v := 0) C.1 C.2.1 dX9_isZone_34 (by decide) ?_
        exact fin_z C hw (by decide) (Option.some.inj hf) (fun o => o) (fun o => (dO G ad d_ad dw ++ [])) rfl rfl dX9_isZone_35
      · replace hf := ifn hf hc
        refine lv_iconst (v := 1) C.1 C.2.1 dX9_isZone_30 (by decide) ?_
        refine lv_goto (tgt := 35) C.1 C.2.1 dX9_isZone_31 (by decide) ?_
        exact fin_z C hw (by decide) (Option.some.inj hf) (fun o => o) (fun o => (dO G ad d_ad dw ++ [])) rfl rfl dX9_isZone_35
set_option maxHeartbeats 4000000 in
set_option maxRecDepth 100000 in
theorem c_X9_classOf (l : Launch) (G : GG) (ad : Nat → Nat) (sz : Nat) (d_ad : Pic) (dw : Int64) (x1 : Int32) (out : Int32) (hf : f_X9_classOf d_ad x1 = some out) : Met l yX9_classOf (.code yX9_classOf cX9_classOf 2 (some .int) :: BT) ({ frames := 0, cells := 0, slots := 0, locals := 0 }) (va_Pc [.ref (ad 99), .int x1] (PreW G sz (dO G ad d_ad dw ++ []))) (Ans G out (va_A (dO G ad d_ad dw ++ []) sz) (dO G ad d_ad dw ++ [])) 0 0 (va_A (dO G ad d_ad dw ++ []) sz) := by
  refine Met.into (by decide) (Nat.le_of_ble_eq_true rfl) ?_
  intro p e s m below meth c C hsz ls hl hw
  have hl : lv_has ls 2 [(0, .ref (ad 99)), (1, .int x1)] := hl
  clear hsz
  generalize va_A (dO G ad d_ad dw ++ []) sz = A at hw ⊢
  unfold f_X9_classOf at hf
  refine r_aload0 C hl 0 rfl dX9_classOf_0 ?_
  refine r_get C hw _ (gx_h dO_o) 20 fl_X9_35 rfl dX9_classOf_1 ?_
  refine lv_sipush (v := 796) C.1 C.2.1 dX9_classOf_4 (by decide) ?_
  refine r_iload0 C hl 1 rfl dX9_classOf_7 ?_
  refine lv_iadd C.1 C.2.1 dX9_classOf_8 ?_
  obtain ⟨v1_, e1, hf⟩ := bx hf
  refine r_iald C hw _ (gx_h dO_g20) e1 dX9_classOf_9 ?_
  exact fin_i C hw (Option.some.inj hf) (fun o => o) (fun o => (dO G ad d_ad dw ++ [])) rfl rfl dX9_classOf_10
set_option maxHeartbeats 4000000 in
set_option maxRecDepth 100000 in
theorem c_X9_slotAt (l : Launch) (G : GG)  (sz : Nat)  (x0 : Int32) (x1 : Int32) (out : Int32) (hf : f_X9_slotAt x0 x1 = some out) : Met l yX9_slotAt (.code yX9_slotAt cX9_slotAt 2 (some .int) :: BT) ({ frames := 0, cells := 0, slots := 0, locals := 0 }) (va_Pc [.int x0, .int x1] (PreW G sz [])) (Ans G out (va_A [] sz) []) 0 0 (va_A [] sz) := by
  refine Met.into (by decide) (Nat.le_of_ble_eq_true rfl) ?_
  intro p e s m below meth c C hsz ls hl hw
  have hl : lv_has ls 2 [(0, .int x0), (1, .int x1)] := hl
  clear hsz
  generalize va_A [] sz = A at hw ⊢
  unfold f_X9_slotAt at hf
  refine lv_sipush (v := 820) C.1 C.2.1 dX9_slotAt_0 (by decide) ?_
  refine lv_bipush (v := 16) C.1 C.2.1 dX9_slotAt_3 (by decide) ?_
  refine r_iload0 C hl 0 rfl dX9_slotAt_5 ?_
  refine lv_imul C.1 C.2.1 dX9_slotAt_6 ?_
  refine lv_iadd C.1 C.2.1 dX9_slotAt_7 ?_
  refine r_iload0 C hl 1 rfl dX9_slotAt_8 ?_
  refine lv_iadd C.1 C.2.1 dX9_slotAt_9 ?_
  exact fin_i C hw (Option.some.inj hf) (fun o => o) (fun o => []) rfl rfl dX9_slotAt_10
set_option maxHeartbeats 4000000 in
set_option maxRecDepth 100000 in
theorem c_X9_fillOf (l : Launch) (G : GG) (ad : Nat → Nat) (sz : Nat) (d_ad : Pic) (dw : Int64) (x1 : Int32) (out : Int32) (hf : f_X9_fillOf d_ad x1 = some out) : Met l yX9_fillOf (.code yX9_fillOf cX9_fillOf 4 (some .int) :: BT) ({ frames := 1, cells := 0, slots := 0, locals := 21 }) (va_Pc [.ref (ad 99), .int x1] (PreW G sz (dO G ad d_ad dw ++ []))) (Ans G out (va_A (dO G ad d_ad dw ++ []) sz) (dO G ad d_ad dw ++ [])) 0 0 (va_A (dO G ad d_ad dw ++ []) sz) := by
  refine Met.into (by decide) (Nat.le_of_ble_eq_true rfl) ?_
  intro p e s m below meth c C hsz ls hl hw
  have hl : lv_has ls 4 [(0, .ref (ad 99)), (1, .int x1)] := hl
  clear hsz
  generalize va_A (dO G ad d_ad dw ++ []) sz = A at hw ⊢
  have hB_4 : ∀ (k4 : Int32 → Int32 → Option (Int32)) (hk4 : ∀ (v2 : Int32) (v3 : Int32), k4 v2 v3 = some out → ∀ (H : Heap) (locs : List Loc), Wd G A s H locs (dO G ad d_ad dw ++ []) → ∀ ls : Array Slot, lv_has ls 4 [(0, .ref (ad 99)), (1, .int x1), (2, .int v2), (3, .int v3)] → W p l e ({ frames := 1, cells := 0, slots := 0, locals := 21 }) s m [.ref (ad 99), .int x1].toArray below meth c H locs 0 0 (MQ below (Ans G out A (dO G ad d_ad dw ++ [])) [.ref (ad 99), .int x1].toArray s 0 0 A) (F0 m 4 ls [])), ∀ (v2 : Int32) (v3 : Int32), b_X9_fillOf_4 d_ad x1 k4 v2 v3 = some out → ∀ (H : Heap) (locs : List Loc), Wd G A s H locs (dO G ad d_ad dw ++ []) → ∀ ls : Array Slot, lv_has ls 4 [(0, .ref (ad 99)), (1, .int x1), (2, .int v2), (3, .int v3)] → W p l e ({ frames := 1, cells := 0, slots := 0, locals := 21 }) s m [.ref (ad 99), .int x1].toArray below meth c H locs 0 0 (MQ below (Ans G out A (dO G ad d_ad dw ++ [])) [.ref (ad 99), .int x1].toArray s 0 0 A) (F0 m 4 ls []) := by
    intro k4 hk4 v2 v3 hf H locs hw ls hl
    unfold b_X9_fillOf_4 at hf
    refine r_iload0 C hl 3 rfl dX9_fillOf_4 ?_
    refine lv_bipush (v := 16) C.1 C.2.1 dX9_fillOf_5 (by decide) ?_
    refine lv_icmp_ge (tgt := 37) C.1 C.2.1 dX9_fillOf_7 (by decide) (fun hc => ?_) (fun hc => ?_)
    · replace hf := ifp hf hc
      refine r_iload0 C hl 2 rfl dX9_fillOf_37 ?_
      exact fin_i C hw (Option.some.inj hf) (fun o => o) (fun o => (dO G ad d_ad dw ++ [])) rfl rfl dX9_fillOf_38
    · replace hf := ifn hf hc
      refine r_iload0 C hl 2 rfl dX9_fillOf_10 ?_
      refine r_aload0 C hl 0 rfl dX9_fillOf_11 ?_
      refine r_get C hw _ (gx_h dO_o) 20 fl_X9_35 rfl dX9_fillOf_12 ?_
      refine r_iload0 C hl 1 rfl dX9_fillOf_15 ?_
      refine r_iload0 C hl 3 rfl dX9_fillOf_16 ?_
      obtain ⟨u1, e1, hf⟩ := bx hf
      refine r_callSi (ws' := (dO G ad d_ad dw ++ [])) (As := [.int x1, .int v3]) (rest := [.ref (ad 20), .int v2]) C hw hl.1 kX9_slotAt ml_X9_304 (c_X9_slotAt l G _ x1 v3 u1 e1) CutX.none ⟨rfl, rfl⟩ ⟨Nat.le_of_ble_eq_true rfl, Nat.le_of_ble_eq_true rfl⟩ rfl ⟨Nat.zero_le _, Nat.zero_le _⟩ rfl (Nat.le_of_ble_eq_true rfl) dX9_fillOf_17 (fun H locs hw => ?_)
      obtain ⟨v2_, e2, hf⟩ := bx hf
      refine r_iald C hw _ (gx_h dO_g20) e2 dX9_fillOf_20 ?_
      refine lv_if_le (tgt := 28) C.1 C.2.1 dX9_fillOf_21 (by decide) (fun hc => ?_) (fun hc => ?_)
      · replace hf := ifp hf hc
        refine lv_iconst (v := 0) C.1 C.2.1 dX9_fillOf_28 (by decide) ?_
        refine lv_iadd C.1 C.2.1 dX9_fillOf_29 ?_
        refine r_istore0 C hl [(2, .int (v2 + 0)), (0, .ref (ad 99)), (1, .int x1), (3, .int v3)] (by decide) rfl dX9_fillOf_30 (fun ls hl => ?_)
        refine r_iinc C hl 3 (v3 + 1) [(3, .int (v3 + 1)), (2, .int (v2 + 0)), (0, .ref (ad 99)), (1, .int x1)] rfl (iinc_e (by decide)) (by decide) rfl dX9_fillOf_31 (fun ls hl => ?_)
        refine lv_goto (tgt := 4) C.1 C.2.1 dX9_fillOf_34 (by decide) ?_
        exact hk4 (v2 + 0) (v3 + 1) hf _ _ hw _ (lv_sub hl [2, 3, 1, 0] rfl)
      · replace hf := ifn hf hc
        refine lv_iconst (v := 1) C.1 C.2.1 dX9_fillOf_24 (by decide) ?_
        refine lv_goto (tgt := 29) C.1 C.2.1 dX9_fillOf_25 (by decide) ?_
        refine lv_iadd C.1 C.2.1 dX9_fillOf_29 ?_
        refine r_istore0 C hl [(2, .int (v2 + 1)), (0, .ref (ad 99)), (1, .int x1), (3, .int v3)] (by decide) rfl dX9_fillOf_30 (fun ls hl => ?_)
        refine r_iinc C hl 3 (v3 + 1) [(3, .int (v3 + 1)), (2, .int (v2 + 1)), (0, .ref (ad 99)), (1, .int x1)] rfl (iinc_e (by decide)) (by decide) rfl dX9_fillOf_31 (fun ls hl => ?_)
        refine lv_goto (tgt := 4) C.1 C.2.1 dX9_fillOf_34 (by decide) ?_
        exact hk4 (v2 + 1) (v3 + 1) hf _ _ hw _ (lv_sub hl [2, 3, 1, 0] rfl)
  have hL_4 : ∀ n : Nat, ∀ (v2 : Int32) (v3 : Int32), L_X9_fillOf_4 d_ad x1  n v2 v3 = some out → ∀ (H : Heap) (locs : List Loc), Wd G A s H locs (dO G ad d_ad dw ++ []) → ∀ ls : Array Slot, lv_has ls 4 [(0, .ref (ad 99)), (1, .int x1), (2, .int v2), (3, .int v3)] → W p l e ({ frames := 1, cells := 0, slots := 0, locals := 21 }) s m [.ref (ad 99), .int x1].toArray below meth c H locs 0 0 (MQ below (Ans G out A (dO G ad d_ad dw ++ [])) [.ref (ad 99), .int x1].toArray s 0 0 A) (F0 m 4 ls []) := by
    intro  n
    induction n with
    | zero => intro v2 v3 hf; cases hf
    | succ n ih => exact hB_4 _ ih
  unfold f_X9_fillOf at hf
  refine lv_iconst (v := 0) C.1 C.2.1 dX9_fillOf_0 (by decide) ?_
  refine r_istore0 C hl [(2, .int 0), (0, .ref (ad 99)), (1, .int x1)] (by decide) rfl dX9_fillOf_1 (fun ls hl => ?_)
  refine lv_iconst (v := 0) C.1 C.2.1 dX9_fillOf_2 (by decide) ?_
  refine r_istore0 C hl [(3, .int 0), (2, .int 0), (0, .ref (ad 99)), (1, .int x1)] (by decide) rfl dX9_fillOf_3 (fun ls hl => ?_)
  exact hL_4  FU 0 0 hf _ _ hw _ (lv_sub hl [2, 3, 1, 0] rfl)
set_option maxHeartbeats 4000000 in
set_option maxRecDepth 100000 in
theorem c_X9_isFull (l : Launch) (G : GG) (ad : Nat → Nat) (sz : Nat) (d_ad : Pic) (dw : Int64) (x1 : Int32) (out : Int32) (hf : f_X9_isFull d_ad x1 = some out) : Met l yX9_isFull (.code yX9_isFull cX9_isFull 2 (some .boolean) :: BT) ({ frames := 2, cells := 0, slots := 0, locals := 44 }) (va_Pc [.ref (ad 99), .int x1] (PreW G sz (dO G ad d_ad dw ++ []))) (Ans G out (va_A (dO G ad d_ad dw ++ []) sz) (dO G ad d_ad dw ++ [])) 0 0 (va_A (dO G ad d_ad dw ++ []) sz) := by
  refine Met.into (by decide) (Nat.le_of_ble_eq_true rfl) ?_
  intro p e s m below meth c C hsz ls hl hw
  have hl : lv_has ls 2 [(0, .ref (ad 99)), (1, .int x1)] := hl
  clear hsz
  generalize va_A (dO G ad d_ad dw ++ []) sz = A at hw ⊢
  unfold f_X9_isFull at hf
  refine r_aload0 C hl 0 rfl dX9_isFull_0 ?_
  refine r_iload0 C hl 1 rfl dX9_isFull_1 ?_
  obtain ⟨u1, e1, hf⟩ := bx hf
  refine r_callVi (ws' := (dO G ad d_ad dw ++ [])) (As := [.int x1]) (rest := []) C hw hl.1 kX9_fillOf ml_X9_307 (c_X9_fillOf l G ad _ d_ad dw x1 u1 e1) (CutX.take dO_f CutX.none) _ (gx_h dO_o) rfl ⟨rfl, rfl⟩ ⟨Nat.le_of_ble_eq_true rfl, Nat.le_of_ble_eq_true rfl⟩ rfl ⟨Nat.zero_le _, Nat.zero_le _⟩ rfl (Nat.le_of_ble_eq_true rfl) dX9_isFull_2 (fun H locs hw => ?_)
  refine r_aload0 C hl 0 rfl dX9_isFull_5 ?_
  refine r_iload0 C hl 1 rfl dX9_isFull_6 ?_
  obtain ⟨u2, e2, hf⟩ := bx hf
  refine r_callVi (ws' := (dO G ad d_ad dw ++ [])) (As := [.int x1]) (rest := [.int u1]) C hw hl.1 kX9_classOf ml_X9_310 (c_X9_classOf l G ad _ d_ad dw x1 u2 e2) (CutX.take dO_f CutX.none) _ (gx_h dO_o) rfl ⟨rfl, rfl⟩ ⟨Nat.le_of_ble_eq_true rfl, Nat.le_of_ble_eq_true rfl⟩ rfl ⟨Nat.zero_le _, Nat.zero_le _⟩ rfl (Nat.le_of_ble_eq_true rfl) dX9_isFull_7 (fun H locs hw => ?_)
  obtain ⟨u3, e3, hf⟩ := bx hf
  refine r_callSi (ws' := (dO G ad d_ad dw ++ [])) (As := [.int u2]) (rest := [.int u1]) C hw hl.1 kX9_slotsOf ml_X9_295 (c_X9_slotsOf l G _ u2 u3 e3) CutX.none ⟨rfl, rfl⟩ ⟨Nat.le_of_ble_eq_true rfl, Nat.le_of_ble_eq_true rfl⟩ rfl ⟨Nat.zero_le _, Nat.zero_le _⟩ rfl (Nat.le_of_ble_eq_true rfl) dX9_isFull_10 (fun H locs hw => ?_)
  refine lv_icmp_ne (tgt := 20) C.1 C.2.1 dX9_isFull_13 (by decide) (fun hc => ?_) (fun hc => ?_)
  · replace hf := ifn hf hc
    refine lv_iconst (v := 0) C.1 C.2.1 dX9_isFull_20 (by decide) ?_
    exact fin_z C hw (by decide) (Option.some.inj hf) (fun o => o) (fun o => (dO G ad d_ad dw ++ [])) rfl rfl dX9_isFull_21
  · replace hf := ifp hf hc
    refine lv_iconst (v := 1) C.1 C.2.1 dX9_isFull_16 (by decide) ?_
    refine lv_goto (tgt := 21) C.1 C.2.1 dX9_isFull_17 (by decide) ?_
    exact fin_z C hw (by decide) (Option.some.inj hf) (fun o => o) (fun o => (dO G ad d_ad dw ++ [])) rfl rfl dX9_isFull_21
set_option maxHeartbeats 4000000 in
set_option maxRecDepth 100000 in
theorem c_X9_zonesOf (l : Launch) (G : GG) (ad : Nat → Nat) (sz : Nat) (d_ad : Pic) (dw : Int64) (x1 : Int32) (out : Int32) (hf : f_X9_zonesOf d_ad x1 = some out) : Met l yX9_zonesOf (.code yX9_zonesOf cX9_zonesOf 4 (some .int) :: BT) ({ frames := 1, cells := 0, slots := 0, locals := 21 }) (va_Pc [.ref (ad 99), .int x1] (PreW G sz (dO G ad d_ad dw ++ []))) (Ans G out (va_A (dO G ad d_ad dw ++ []) sz) (dO G ad d_ad dw ++ [])) 0 0 (va_A (dO G ad d_ad dw ++ []) sz) := by
  refine Met.into (by decide) (Nat.le_of_ble_eq_true rfl) ?_
  intro p e s m below meth c C hsz ls hl hw
  have hl : lv_has ls 4 [(0, .ref (ad 99)), (1, .int x1)] := hl
  clear hsz
  generalize va_A (dO G ad d_ad dw ++ []) sz = A at hw ⊢
  have hB_4 : ∀ (k4 : Int32 → Int32 → Option (Int32)) (hk4 : ∀ (v2 : Int32) (v3 : Int32), k4 v2 v3 = some out → ∀ (H : Heap) (locs : List Loc), Wd G A s H locs (dO G ad d_ad dw ++ []) → ∀ ls : Array Slot, lv_has ls 4 [(0, .ref (ad 99)), (1, .int x1), (2, .int v2), (3, .int v3)] → W p l e ({ frames := 1, cells := 0, slots := 0, locals := 21 }) s m [.ref (ad 99), .int x1].toArray below meth c H locs 0 0 (MQ below (Ans G out A (dO G ad d_ad dw ++ [])) [.ref (ad 99), .int x1].toArray s 0 0 A) (F0 m 4 ls [])), ∀ (v2 : Int32) (v3 : Int32), b_X9_zonesOf_4 d_ad x1 k4 v2 v3 = some out → ∀ (H : Heap) (locs : List Loc), Wd G A s H locs (dO G ad d_ad dw ++ []) → ∀ ls : Array Slot, lv_has ls 4 [(0, .ref (ad 99)), (1, .int x1), (2, .int v2), (3, .int v3)] → W p l e ({ frames := 1, cells := 0, slots := 0, locals := 21 }) s m [.ref (ad 99), .int x1].toArray below meth c H locs 0 0 (MQ below (Ans G out A (dO G ad d_ad dw ++ [])) [.ref (ad 99), .int x1].toArray s 0 0 A) (F0 m 4 ls []) := by
    intro k4 hk4 v2 v3 hf H locs hw ls hl
    unfold b_X9_zonesOf_4 at hf
    refine r_iload0 C hl 3 rfl dX9_zonesOf_4 ?_
    refine lv_bipush (v := 24) C.1 C.2.1 dX9_zonesOf_5 (by decide) ?_
    refine lv_icmp_ge (tgt := 33) C.1 C.2.1 dX9_zonesOf_7 (by decide) (fun hc => ?_) (fun hc => ?_)
    · replace hf := ifp hf hc
      refine r_iload0 C hl 2 rfl dX9_zonesOf_33 ?_
      exact fin_i C hw (Option.some.inj hf) (fun o => o) (fun o => (dO G ad d_ad dw ++ [])) rfl rfl dX9_zonesOf_34
    · replace hf := ifn hf hc
      refine r_iload0 C hl 2 rfl dX9_zonesOf_10 ?_
      refine r_aload0 C hl 0 rfl dX9_zonesOf_11 ?_
      refine r_iload0 C hl 3 rfl dX9_zonesOf_12 ?_
      obtain ⟨u1, e1, hf⟩ := bx hf
      refine r_callVi (ws' := (dO G ad d_ad dw ++ [])) (As := [.int v3]) (rest := [.int v2]) C hw hl.1 kX9_classOf ml_X9_310 (c_X9_classOf l G ad _ d_ad dw v3 u1 e1) (CutX.take dO_f CutX.none) _ (gx_h dO_o) rfl ⟨rfl, rfl⟩ ⟨Nat.le_of_ble_eq_true rfl, Nat.le_of_ble_eq_true rfl⟩ rfl ⟨Nat.zero_le _, Nat.zero_le _⟩ rfl (Nat.le_of_ble_eq_true rfl) dX9_zonesOf_13 (fun H locs hw => ?_)
      refine r_iload0 C hl 1 rfl dX9_zonesOf_16 ?_
      refine lv_icmp_ne (tgt := 24) C.1 C.2.1 dX9_zonesOf_17 (by decide) (fun hc => ?_) (fun hc => ?_)
      · replace hf := ifn hf hc
        refine lv_iconst (v := 0) C.1 C.2.1 dX9_zonesOf_24 (by decide) ?_
        refine lv_iadd C.1 C.2.1 dX9_zonesOf_25 ?_
        refine r_istore0 C hl [(2, .int (v2 + 0)), (0, .ref (ad 99)), (1, .int x1), (3, .int v3)] (by decide) rfl dX9_zonesOf_26 (fun ls hl => ?_)
        refine r_iinc C hl 3 (v3 + 1) [(3, .int (v3 + 1)), (2, .int (v2 + 0)), (0, .ref (ad 99)), (1, .int x1)] rfl (iinc_e (by decide)) (by decide) rfl dX9_zonesOf_27 (fun ls hl => ?_)
        refine lv_goto (tgt := 4) C.1 C.2.1 dX9_zonesOf_30 (by decide) ?_
        exact hk4 (v2 + 0) (v3 + 1) hf _ _ hw _ (lv_sub hl [2, 3, 1, 0] rfl)
      · replace hf := ifp hf hc
        refine lv_iconst (v := 1) C.1 C.2.1 dX9_zonesOf_20 (by decide) ?_
        refine lv_goto (tgt := 25) C.1 C.2.1 dX9_zonesOf_21 (by decide) ?_
        refine lv_iadd C.1 C.2.1 dX9_zonesOf_25 ?_
        refine r_istore0 C hl [(2, .int (v2 + 1)), (0, .ref (ad 99)), (1, .int x1), (3, .int v3)] (by decide) rfl dX9_zonesOf_26 (fun ls hl => ?_)
        refine r_iinc C hl 3 (v3 + 1) [(3, .int (v3 + 1)), (2, .int (v2 + 1)), (0, .ref (ad 99)), (1, .int x1)] rfl (iinc_e (by decide)) (by decide) rfl dX9_zonesOf_27 (fun ls hl => ?_)
        refine lv_goto (tgt := 4) C.1 C.2.1 dX9_zonesOf_30 (by decide) ?_
        exact hk4 (v2 + 1) (v3 + 1) hf _ _ hw _ (lv_sub hl [2, 3, 1, 0] rfl)
  have hL_4 : ∀ n : Nat, ∀ (v2 : Int32) (v3 : Int32), L_X9_zonesOf_4 d_ad x1  n v2 v3 = some out → ∀ (H : Heap) (locs : List Loc), Wd G A s H locs (dO G ad d_ad dw ++ []) → ∀ ls : Array Slot, lv_has ls 4 [(0, .ref (ad 99)), (1, .int x1), (2, .int v2), (3, .int v3)] → W p l e ({ frames := 1, cells := 0, slots := 0, locals := 21 }) s m [.ref (ad 99), .int x1].toArray below meth c H locs 0 0 (MQ below (Ans G out A (dO G ad d_ad dw ++ [])) [.ref (ad 99), .int x1].toArray s 0 0 A) (F0 m 4 ls []) := by
    intro  n
    induction n with
    | zero => intro v2 v3 hf; cases hf
    | succ n ih => exact hB_4 _ ih
  unfold f_X9_zonesOf at hf
  refine lv_iconst (v := 0) C.1 C.2.1 dX9_zonesOf_0 (by decide) ?_
  refine r_istore0 C hl [(2, .int 0), (0, .ref (ad 99)), (1, .int x1)] (by decide) rfl dX9_zonesOf_1 (fun ls hl => ?_)
  refine lv_iconst (v := 0) C.1 C.2.1 dX9_zonesOf_2 (by decide) ?_
  refine r_istore0 C hl [(3, .int 0), (2, .int 0), (0, .ref (ad 99)), (1, .int x1)] (by decide) rfl dX9_zonesOf_3 (fun ls hl => ?_)
  exact hL_4  FU 0 0 hf _ _ hw _ (lv_sub hl [2, 3, 1, 0] rfl)
set_option maxHeartbeats 4000000 in
set_option maxRecDepth 100000 in
theorem c_X9_pagesOf (l : Launch) (G : GG) (ad : Nat → Nat) (sz : Nat) (d_ad : Pic) (dw : Int64) (x1 : Int32) (out : Int32) (hf : f_X9_pagesOf d_ad x1 = some out) : Met l yX9_pagesOf (.code yX9_pagesOf cX9_pagesOf 4 (some .int) :: BT) ({ frames := 2, cells := 0, slots := 0, locals := 44 }) (va_Pc [.ref (ad 99), .int x1] (PreW G sz (dO G ad d_ad dw ++ []))) (Ans G out (va_A (dO G ad d_ad dw ++ []) sz) (dO G ad d_ad dw ++ [])) 0 0 (va_A (dO G ad d_ad dw ++ []) sz) := by
  refine Met.into (by decide) (Nat.le_of_ble_eq_true rfl) ?_
  intro p e s m below meth c C hsz ls hl hw
  have hl : lv_has ls 4 [(0, .ref (ad 99)), (1, .int x1)] := hl
  clear hsz
  generalize va_A (dO G ad d_ad dw ++ []) sz = A at hw ⊢
  have hB_4 : ∀ (k4 : Int32 → Int32 → Option (Int32)) (hk4 : ∀ (v2 : Int32) (v3 : Int32), k4 v2 v3 = some out → ∀ (H : Heap) (locs : List Loc), Wd G A s H locs (dO G ad d_ad dw ++ []) → ∀ ls : Array Slot, lv_has ls 4 [(0, .ref (ad 99)), (1, .int x1), (2, .int v2), (3, .int v3)] → W p l e ({ frames := 2, cells := 0, slots := 0, locals := 44 }) s m [.ref (ad 99), .int x1].toArray below meth c H locs 0 0 (MQ below (Ans G out A (dO G ad d_ad dw ++ [])) [.ref (ad 99), .int x1].toArray s 0 0 A) (F0 m 4 ls [])), ∀ (v2 : Int32) (v3 : Int32), b_X9_pagesOf_4 d_ad x1 k4 v2 v3 = some out → ∀ (H : Heap) (locs : List Loc), Wd G A s H locs (dO G ad d_ad dw ++ []) → ∀ ls : Array Slot, lv_has ls 4 [(0, .ref (ad 99)), (1, .int x1), (2, .int v2), (3, .int v3)] → W p l e ({ frames := 2, cells := 0, slots := 0, locals := 44 }) s m [.ref (ad 99), .int x1].toArray below meth c H locs 0 0 (MQ below (Ans G out A (dO G ad d_ad dw ++ [])) [.ref (ad 99), .int x1].toArray s 0 0 A) (F0 m 4 ls []) := by
    intro k4 hk4 v2 v3 hf H locs hw ls hl
    unfold b_X9_pagesOf_4 at hf
    refine r_iload0 C hl 3 rfl dX9_pagesOf_4 ?_
    refine lv_bipush (v := 24) C.1 C.2.1 dX9_pagesOf_5 (by decide) ?_
    refine lv_icmp_ge (tgt := 37) C.1 C.2.1 dX9_pagesOf_7 (by decide) (fun hc => ?_) (fun hc => ?_)
    · replace hf := ifp hf hc
      refine r_iload0 C hl 2 rfl dX9_pagesOf_37 ?_
      exact fin_i C hw (Option.some.inj hf) (fun o => o) (fun o => (dO G ad d_ad dw ++ [])) rfl rfl dX9_pagesOf_38
    · replace hf := ifn hf hc
      refine r_iload0 C hl 2 rfl dX9_pagesOf_10 ?_
      refine r_aload0 C hl 0 rfl dX9_pagesOf_11 ?_
      refine r_iload0 C hl 3 rfl dX9_pagesOf_12 ?_
      obtain ⟨u1, e1, hf⟩ := bx hf
      refine r_callVi (ws' := (dO G ad d_ad dw ++ [])) (As := [.int v3]) (rest := [.int v2]) C hw hl.1 kX9_classOf ml_X9_310 (c_X9_classOf l G ad _ d_ad dw v3 u1 e1) (CutX.take dO_f CutX.none) _ (gx_h dO_o) rfl ⟨rfl, rfl⟩ ⟨Nat.le_of_ble_eq_true rfl, Nat.le_of_ble_eq_true rfl⟩ rfl ⟨Nat.zero_le _, Nat.zero_le _⟩ rfl (Nat.le_of_ble_eq_true rfl) dX9_pagesOf_13 (fun H locs hw => ?_)
      refine r_iload0 C hl 1 rfl dX9_pagesOf_16 ?_
      refine lv_icmp_ne (tgt := 28) C.1 C.2.1 dX9_pagesOf_17 (by decide) (fun hc => ?_) (fun hc => ?_)
      · replace hf := ifn hf hc
        refine lv_iconst (v := 0) C.1 C.2.1 dX9_pagesOf_28 (by decide) ?_
        refine lv_iadd C.1 C.2.1 dX9_pagesOf_29 ?_
        refine r_istore0 C hl [(2, .int (v2 + 0)), (0, .ref (ad 99)), (1, .int x1), (3, .int v3)] (by decide) rfl dX9_pagesOf_30 (fun ls hl => ?_)
        refine r_iinc C hl 3 (v3 + 1) [(3, .int (v3 + 1)), (2, .int (v2 + 0)), (0, .ref (ad 99)), (1, .int x1)] rfl (iinc_e (by decide)) (by decide) rfl dX9_pagesOf_31 (fun ls hl => ?_)
        refine lv_goto (tgt := 4) C.1 C.2.1 dX9_pagesOf_34 (by decide) ?_
        exact hk4 (v2 + 0) (v3 + 1) hf _ _ hw _ (lv_sub hl [2, 3, 1, 0] rfl)
      · replace hf := ifp hf hc
        refine r_aload0 C hl 0 rfl dX9_pagesOf_20 ?_
        refine r_iload0 C hl 3 rfl dX9_pagesOf_21 ?_
        obtain ⟨u2, e2, hf⟩ := bx hf
        refine r_callVi (ws' := (dO G ad d_ad dw ++ [])) (As := [.int v3]) (rest := [.int v2]) C hw hl.1 kX9_fillOf ml_X9_307 (c_X9_fillOf l G ad _ d_ad dw v3 u2 e2) (CutX.take dO_f CutX.none) _ (gx_h dO_o) rfl ⟨rfl, rfl⟩ ⟨Nat.le_of_ble_eq_true rfl, Nat.le_of_ble_eq_true rfl⟩ rfl ⟨Nat.zero_le _, Nat.zero_le _⟩ rfl (Nat.le_of_ble_eq_true rfl) dX9_pagesOf_22 (fun H locs hw => ?_)
        refine lv_goto (tgt := 29) C.1 C.2.1 dX9_pagesOf_25 (by decide) ?_
        refine lv_iadd C.1 C.2.1 dX9_pagesOf_29 ?_
        refine r_istore0 C hl [(2, .int (v2 + u2)), (0, .ref (ad 99)), (1, .int x1), (3, .int v3)] (by decide) rfl dX9_pagesOf_30 (fun ls hl => ?_)
        refine r_iinc C hl 3 (v3 + 1) [(3, .int (v3 + 1)), (2, .int (v2 + u2)), (0, .ref (ad 99)), (1, .int x1)] rfl (iinc_e (by decide)) (by decide) rfl dX9_pagesOf_31 (fun ls hl => ?_)
        refine lv_goto (tgt := 4) C.1 C.2.1 dX9_pagesOf_34 (by decide) ?_
        exact hk4 (v2 + u2) (v3 + 1) hf _ _ hw _ (lv_sub hl [2, 3, 1, 0] rfl)
  have hL_4 : ∀ n : Nat, ∀ (v2 : Int32) (v3 : Int32), L_X9_pagesOf_4 d_ad x1  n v2 v3 = some out → ∀ (H : Heap) (locs : List Loc), Wd G A s H locs (dO G ad d_ad dw ++ []) → ∀ ls : Array Slot, lv_has ls 4 [(0, .ref (ad 99)), (1, .int x1), (2, .int v2), (3, .int v3)] → W p l e ({ frames := 2, cells := 0, slots := 0, locals := 44 }) s m [.ref (ad 99), .int x1].toArray below meth c H locs 0 0 (MQ below (Ans G out A (dO G ad d_ad dw ++ [])) [.ref (ad 99), .int x1].toArray s 0 0 A) (F0 m 4 ls []) := by
    intro  n
    induction n with
    | zero => intro v2 v3 hf; cases hf
    | succ n ih => exact hB_4 _ ih
  unfold f_X9_pagesOf at hf
  refine lv_iconst (v := 0) C.1 C.2.1 dX9_pagesOf_0 (by decide) ?_
  refine r_istore0 C hl [(2, .int 0), (0, .ref (ad 99)), (1, .int x1)] (by decide) rfl dX9_pagesOf_1 (fun ls hl => ?_)
  refine lv_iconst (v := 0) C.1 C.2.1 dX9_pagesOf_2 (by decide) ?_
  refine r_istore0 C hl [(3, .int 0), (2, .int 0), (0, .ref (ad 99)), (1, .int x1)] (by decide) rfl dX9_pagesOf_3 (fun ls hl => ?_)
  exact hL_4  FU 0 0 hf _ _ hw _ (lv_sub hl [2, 3, 1, 0] rfl)
set_option maxHeartbeats 4000000 in
set_option maxRecDepth 100000 in
theorem c_X9_zonesNow (l : Launch) (G : GG) (ad : Nat → Nat) (sz : Nat) (d_ad : Pic) (dw : Int64)  (out : Int32) (hf : f_X9_zonesNow d_ad = some out) : Met l yX9_zonesNow (.code yX9_zonesNow cX9_zonesNow 3 (some .int) :: BT) ({ frames := 1, cells := 0, slots := 0, locals := 21 }) (va_Pc [.ref (ad 99)] (PreW G sz (dO G ad d_ad dw ++ []))) (Ans G out (va_A (dO G ad d_ad dw ++ []) sz) (dO G ad d_ad dw ++ [])) 0 0 (va_A (dO G ad d_ad dw ++ []) sz) := by
  refine Met.into (by decide) (Nat.le_of_ble_eq_true rfl) ?_
  intro p e s m below meth c C hsz ls hl hw
  have hl : lv_has ls 3 [(0, .ref (ad 99))] := hl
  clear hsz
  generalize va_A (dO G ad d_ad dw ++ []) sz = A at hw ⊢
  have hB_4 : ∀ (k4 : Int32 → Int32 → Option (Int32)) (hk4 : ∀ (v1 : Int32) (v2 : Int32), k4 v1 v2 = some out → ∀ (H : Heap) (locs : List Loc), Wd G A s H locs (dO G ad d_ad dw ++ []) → ∀ ls : Array Slot, lv_has ls 3 [(0, .ref (ad 99)), (1, .int v1), (2, .int v2)] → W p l e ({ frames := 1, cells := 0, slots := 0, locals := 21 }) s m [.ref (ad 99)].toArray below meth c H locs 0 0 (MQ below (Ans G out A (dO G ad d_ad dw ++ [])) [.ref (ad 99)].toArray s 0 0 A) (F0 m 4 ls [])), ∀ (v1 : Int32) (v2 : Int32), b_X9_zonesNow_4 d_ad k4 v1 v2 = some out → ∀ (H : Heap) (locs : List Loc), Wd G A s H locs (dO G ad d_ad dw ++ []) → ∀ ls : Array Slot, lv_has ls 3 [(0, .ref (ad 99)), (1, .int v1), (2, .int v2)] → W p l e ({ frames := 1, cells := 0, slots := 0, locals := 21 }) s m [.ref (ad 99)].toArray below meth c H locs 0 0 (MQ below (Ans G out A (dO G ad d_ad dw ++ [])) [.ref (ad 99)].toArray s 0 0 A) (F0 m 4 ls []) := by
    intro k4 hk4 v1 v2 hf H locs hw ls hl
    unfold b_X9_zonesNow_4 at hf
    refine r_iload0 C hl 2 rfl dX9_zonesNow_4 ?_
    refine lv_bipush (v := 24) C.1 C.2.1 dX9_zonesNow_5 (by decide) ?_
    refine lv_icmp_ge (tgt := 32) C.1 C.2.1 dX9_zonesNow_7 (by decide) (fun hc => ?_) (fun hc => ?_)
    · replace hf := ifp hf hc
      refine r_iload0 C hl 1 rfl dX9_zonesNow_32 ?_
      exact fin_i C hw (Option.some.inj hf) (fun o => o) (fun o => (dO G ad d_ad dw ++ [])) rfl rfl dX9_zonesNow_33
    · replace hf := ifn hf hc
      refine r_iload0 C hl 1 rfl dX9_zonesNow_10 ?_
      refine r_aload0 C hl 0 rfl dX9_zonesNow_11 ?_
      refine r_iload0 C hl 2 rfl dX9_zonesNow_12 ?_
      obtain ⟨u1, e1, hf⟩ := bx hf
      refine r_callVi (ws' := (dO G ad d_ad dw ++ [])) (As := [.int v2]) (rest := [.int v1]) C hw hl.1 kX9_classOf ml_X9_310 (c_X9_classOf l G ad _ d_ad dw v2 u1 e1) (CutX.take dO_f CutX.none) _ (gx_h dO_o) rfl ⟨rfl, rfl⟩ ⟨Nat.le_of_ble_eq_true rfl, Nat.le_of_ble_eq_true rfl⟩ rfl ⟨Nat.zero_le _, Nat.zero_le _⟩ rfl (Nat.le_of_ble_eq_true rfl) dX9_zonesNow_13 (fun H locs hw => ?_)
      refine lv_if_le (tgt := 23) C.1 C.2.1 dX9_zonesNow_16 (by decide) (fun hc => ?_) (fun hc => ?_)
      · replace hf := ifp hf hc
        refine lv_iconst (v := 0) C.1 C.2.1 dX9_zonesNow_23 (by decide) ?_
        refine lv_iadd C.1 C.2.1 dX9_zonesNow_24 ?_
        refine r_istore0 C hl [(1, .int (v1 + 0)), (0, .ref (ad 99)), (2, .int v2)] (by decide) rfl dX9_zonesNow_25 (fun ls hl => ?_)
        refine r_iinc C hl 2 (v2 + 1) [(2, .int (v2 + 1)), (1, .int (v1 + 0)), (0, .ref (ad 99))] rfl (iinc_e (by decide)) (by decide) rfl dX9_zonesNow_26 (fun ls hl => ?_)
        refine lv_goto (tgt := 4) C.1 C.2.1 dX9_zonesNow_29 (by decide) ?_
        exact hk4 (v1 + 0) (v2 + 1) hf _ _ hw _ (lv_sub hl [2, 1, 0] rfl)
      · replace hf := ifn hf hc
        refine lv_iconst (v := 1) C.1 C.2.1 dX9_zonesNow_19 (by decide) ?_
        refine lv_goto (tgt := 24) C.1 C.2.1 dX9_zonesNow_20 (by decide) ?_
        refine lv_iadd C.1 C.2.1 dX9_zonesNow_24 ?_
        refine r_istore0 C hl [(1, .int (v1 + 1)), (0, .ref (ad 99)), (2, .int v2)] (by decide) rfl dX9_zonesNow_25 (fun ls hl => ?_)
        refine r_iinc C hl 2 (v2 + 1) [(2, .int (v2 + 1)), (1, .int (v1 + 1)), (0, .ref (ad 99))] rfl (iinc_e (by decide)) (by decide) rfl dX9_zonesNow_26 (fun ls hl => ?_)
        refine lv_goto (tgt := 4) C.1 C.2.1 dX9_zonesNow_29 (by decide) ?_
        exact hk4 (v1 + 1) (v2 + 1) hf _ _ hw _ (lv_sub hl [2, 1, 0] rfl)
  have hL_4 : ∀ n : Nat, ∀ (v1 : Int32) (v2 : Int32), L_X9_zonesNow_4 d_ad  n v1 v2 = some out → ∀ (H : Heap) (locs : List Loc), Wd G A s H locs (dO G ad d_ad dw ++ []) → ∀ ls : Array Slot, lv_has ls 3 [(0, .ref (ad 99)), (1, .int v1), (2, .int v2)] → W p l e ({ frames := 1, cells := 0, slots := 0, locals := 21 }) s m [.ref (ad 99)].toArray below meth c H locs 0 0 (MQ below (Ans G out A (dO G ad d_ad dw ++ [])) [.ref (ad 99)].toArray s 0 0 A) (F0 m 4 ls []) := by
    intro  n
    induction n with
    | zero => intro v1 v2 hf; cases hf
    | succ n ih => exact hB_4 _ ih
  unfold f_X9_zonesNow at hf
  refine lv_iconst (v := 0) C.1 C.2.1 dX9_zonesNow_0 (by decide) ?_
  refine r_istore0 C hl [(1, .int 0), (0, .ref (ad 99))] (by decide) rfl dX9_zonesNow_1 (fun ls hl => ?_)
  refine lv_iconst (v := 0) C.1 C.2.1 dX9_zonesNow_2 (by decide) ?_
  refine r_istore0 C hl [(2, .int 0), (1, .int 0), (0, .ref (ad 99))] (by decide) rfl dX9_zonesNow_3 (fun ls hl => ?_)
  exact hL_4  FU 0 0 hf _ _ hw _ (lv_sub hl [2, 1, 0] rfl)
set_option maxHeartbeats 4000000 in
set_option maxRecDepth 100000 in
theorem c_X9_framesNow (l : Launch) (G : GG) (ad : Nat → Nat) (sz : Nat) (d_ad : Pic) (dw : Int64)  (out : Int32) (hf : f_X9_framesNow d_ad = some out) : Met l yX9_framesNow (.code yX9_framesNow cX9_framesNow 3 (some .int) :: BT) ({ frames := 1, cells := 0, slots := 0, locals := 22 }) (va_Pc [.ref (ad 99)] (PreW G sz (dO G ad d_ad dw ++ []))) (Ans G out (va_A (dO G ad d_ad dw ++ []) sz) (dO G ad d_ad dw ++ [])) 0 0 (va_A (dO G ad d_ad dw ++ []) sz) := by
  refine Met.into (by decide) (Nat.le_of_ble_eq_true rfl) ?_
  intro p e s m below meth c C hsz ls hl hw
  have hl : lv_has ls 3 [(0, .ref (ad 99))] := hl
  clear hsz
  generalize va_A (dO G ad d_ad dw ++ []) sz = A at hw ⊢
  have hB_4 : ∀ (k4 : Int32 → Int32 → Option (Int32)) (hk4 : ∀ (v1 : Int32) (v2 : Int32), k4 v1 v2 = some out → ∀ (H : Heap) (locs : List Loc), Wd G A s H locs (dO G ad d_ad dw ++ []) → ∀ ls : Array Slot, lv_has ls 3 [(0, .ref (ad 99)), (1, .int v1), (2, .int v2)] → W p l e ({ frames := 1, cells := 0, slots := 0, locals := 22 }) s m [.ref (ad 99)].toArray below meth c H locs 0 0 (MQ below (Ans G out A (dO G ad d_ad dw ++ [])) [.ref (ad 99)].toArray s 0 0 A) (F0 m 4 ls [])), ∀ (v1 : Int32) (v2 : Int32), b_X9_framesNow_4 d_ad k4 v1 v2 = some out → ∀ (H : Heap) (locs : List Loc), Wd G A s H locs (dO G ad d_ad dw ++ []) → ∀ ls : Array Slot, lv_has ls 3 [(0, .ref (ad 99)), (1, .int v1), (2, .int v2)] → W p l e ({ frames := 1, cells := 0, slots := 0, locals := 22 }) s m [.ref (ad 99)].toArray below meth c H locs 0 0 (MQ below (Ans G out A (dO G ad d_ad dw ++ [])) [.ref (ad 99)].toArray s 0 0 A) (F0 m 4 ls []) := by
    intro k4 hk4 v1 v2 hf H locs hw ls hl
    unfold b_X9_framesNow_4 at hf
    refine r_iload0 C hl 2 rfl dX9_framesNow_4 ?_
    refine lv_bipush (v := 24) C.1 C.2.1 dX9_framesNow_5 (by decide) ?_
    refine lv_icmp_ge (tgt := 39) C.1 C.2.1 dX9_framesNow_7 (by decide) (fun hc => ?_) (fun hc => ?_)
    · replace hf := ifp hf hc
      refine r_iload0 C hl 1 rfl dX9_framesNow_39 ?_
      exact fin_i C hw (Option.some.inj hf) (fun o => o) (fun o => (dO G ad d_ad dw ++ [])) rfl rfl dX9_framesNow_40
    · replace hf := ifn hf hc
      refine r_iload0 C hl 1 rfl dX9_framesNow_10 ?_
      refine r_aload0 C hl 0 rfl dX9_framesNow_11 ?_
      refine r_iload0 C hl 2 rfl dX9_framesNow_12 ?_
      obtain ⟨u1, e1, hf⟩ := bx hf
      refine r_callVi (ws' := (dO G ad d_ad dw ++ [])) (As := [.int v2]) (rest := [.int v1]) C hw hl.1 kX9_classOf ml_X9_310 (c_X9_classOf l G ad _ d_ad dw v2 u1 e1) (CutX.take dO_f CutX.none) _ (gx_h dO_o) rfl ⟨rfl, rfl⟩ ⟨Nat.le_of_ble_eq_true rfl, Nat.le_of_ble_eq_true rfl⟩ rfl ⟨Nat.zero_le _, Nat.zero_le _⟩ rfl (Nat.le_of_ble_eq_true rfl) dX9_framesNow_13 (fun H locs hw => ?_)
      refine lv_if_le (tgt := 30) C.1 C.2.1 dX9_framesNow_16 (by decide) (fun hc => ?_) (fun hc => ?_)
      · replace hf := ifp hf hc
        refine lv_iconst (v := 0) C.1 C.2.1 dX9_framesNow_30 (by decide) ?_
        refine lv_iadd C.1 C.2.1 dX9_framesNow_31 ?_
        refine r_istore0 C hl [(1, .int (v1 + 0)), (0, .ref (ad 99)), (2, .int v2)] (by decide) rfl dX9_framesNow_32 (fun ls hl => ?_)
        refine r_iinc C hl 2 (v2 + 1) [(2, .int (v2 + 1)), (1, .int (v1 + 0)), (0, .ref (ad 99))] rfl (iinc_e (by decide)) (by decide) rfl dX9_framesNow_33 (fun ls hl => ?_)
        refine lv_goto (tgt := 4) C.1 C.2.1 dX9_framesNow_36 (by decide) ?_
        exact hk4 (v1 + 0) (v2 + 1) hf _ _ hw _ (lv_sub hl [2, 1, 0] rfl)
      · replace hf := ifn hf hc
        refine r_aload0 C hl 0 rfl dX9_framesNow_19 ?_
        refine r_iload0 C hl 2 rfl dX9_framesNow_20 ?_
        obtain ⟨u2, e2, hf⟩ := bx hf
        refine r_callVi (ws' := (dO G ad d_ad dw ++ [])) (As := [.int v2]) (rest := [.int v1]) C hw hl.1 kX9_classOf ml_X9_310 (c_X9_classOf l G ad _ d_ad dw v2 u2 e2) (CutX.take dO_f CutX.none) _ (gx_h dO_o) rfl ⟨rfl, rfl⟩ ⟨Nat.le_of_ble_eq_true rfl, Nat.le_of_ble_eq_true rfl⟩ rfl ⟨Nat.zero_le _, Nat.zero_le _⟩ rfl (Nat.le_of_ble_eq_true rfl) dX9_framesNow_21 (fun H locs hw => ?_)
        obtain ⟨u3, e3, hf⟩ := bx hf
        refine r_callSi (ws' := (dO G ad d_ad dw ++ [])) (As := [.int u2]) (rest := [.int v1]) C hw hl.1 kX9_framesOf ml_X9_286 (c_X9_framesOf l G _ u2 u3 e3) CutX.none ⟨rfl, rfl⟩ ⟨Nat.le_of_ble_eq_true rfl, Nat.le_of_ble_eq_true rfl⟩ rfl ⟨Nat.zero_le _, Nat.zero_le _⟩ rfl (Nat.le_of_ble_eq_true rfl) dX9_framesNow_24 (fun H locs hw => ?_)
        refine lv_goto (tgt := 31) C.1 C.2.1 dX9_framesNow_27 (by decide) ?_
        refine lv_iadd C.1 C.2.1 dX9_framesNow_31 ?_
        refine r_istore0 C hl [(1, .int (v1 + u3)), (0, .ref (ad 99)), (2, .int v2)] (by decide) rfl dX9_framesNow_32 (fun ls hl => ?_)
        refine r_iinc C hl 2 (v2 + 1) [(2, .int (v2 + 1)), (1, .int (v1 + u3)), (0, .ref (ad 99))] rfl (iinc_e (by decide)) (by decide) rfl dX9_framesNow_33 (fun ls hl => ?_)
        refine lv_goto (tgt := 4) C.1 C.2.1 dX9_framesNow_36 (by decide) ?_
        exact hk4 (v1 + u3) (v2 + 1) hf _ _ hw _ (lv_sub hl [2, 1, 0] rfl)
  have hL_4 : ∀ n : Nat, ∀ (v1 : Int32) (v2 : Int32), L_X9_framesNow_4 d_ad  n v1 v2 = some out → ∀ (H : Heap) (locs : List Loc), Wd G A s H locs (dO G ad d_ad dw ++ []) → ∀ ls : Array Slot, lv_has ls 3 [(0, .ref (ad 99)), (1, .int v1), (2, .int v2)] → W p l e ({ frames := 1, cells := 0, slots := 0, locals := 22 }) s m [.ref (ad 99)].toArray below meth c H locs 0 0 (MQ below (Ans G out A (dO G ad d_ad dw ++ [])) [.ref (ad 99)].toArray s 0 0 A) (F0 m 4 ls []) := by
    intro  n
    induction n with
    | zero => intro v1 v2 hf; cases hf
    | succ n ih => exact hB_4 _ ih
  unfold f_X9_framesNow at hf
  refine lv_iconst (v := 0) C.1 C.2.1 dX9_framesNow_0 (by decide) ?_
  refine r_istore0 C hl [(1, .int 0), (0, .ref (ad 99))] (by decide) rfl dX9_framesNow_1 (fun ls hl => ?_)
  refine lv_iconst (v := 0) C.1 C.2.1 dX9_framesNow_2 (by decide) ?_
  refine r_istore0 C hl [(2, .int 0), (1, .int 0), (0, .ref (ad 99))] (by decide) rfl dX9_framesNow_3 (fun ls hl => ?_)
  exact hL_4  FU 0 0 hf _ _ hw _ (lv_sub hl [2, 1, 0] rfl)
set_option maxHeartbeats 4000000 in
set_option maxRecDepth 100000 in
theorem c_X9_freeSlot (l : Launch) (G : GG) (ad : Nat → Nat) (sz : Nat) (d_ad : Pic) (dw : Int64) (x1 : Int32) (out : Int32) (hf : f_X9_freeSlot d_ad x1 = some out) : Met l yX9_freeSlot (.code yX9_freeSlot cX9_freeSlot 3 (some .int) :: BT) ({ frames := 2, cells := 0, slots := 0, locals := 42 }) (va_Pc [.ref (ad 99), .int x1] (PreW G sz (dO G ad d_ad dw ++ []))) (Ans G out (va_A (dO G ad d_ad dw ++ []) sz) (dO G ad d_ad dw ++ [])) 0 0 (va_A (dO G ad d_ad dw ++ []) sz) := by
  refine Met.into (by decide) (Nat.le_of_ble_eq_true rfl) ?_
  intro p e s m below meth c C hsz ls hl hw
  have hl : lv_has ls 3 [(0, .ref (ad 99)), (1, .int x1)] := hl
  clear hsz
  generalize va_A (dO G ad d_ad dw ++ []) sz = A at hw ⊢
  have hB_2 : ∀ (k2 : Int32 → Option (Int32)) (hk2 : ∀ (v2 : Int32), k2 v2 = some out → ∀ (H : Heap) (locs : List Loc), Wd G A s H locs (dO G ad d_ad dw ++ []) → ∀ ls : Array Slot, lv_has ls 3 [(0, .ref (ad 99)), (1, .int x1), (2, .int v2)] → W p l e ({ frames := 2, cells := 0, slots := 0, locals := 42 }) s m [.ref (ad 99), .int x1].toArray below meth c H locs 0 0 (MQ below (Ans G out A (dO G ad d_ad dw ++ [])) [.ref (ad 99), .int x1].toArray s 0 0 A) (F0 m 2 ls [])), ∀ (v2 : Int32), b_X9_freeSlot_2 d_ad x1 k2 v2 = some out → ∀ (H : Heap) (locs : List Loc), Wd G A s H locs (dO G ad d_ad dw ++ []) → ∀ ls : Array Slot, lv_has ls 3 [(0, .ref (ad 99)), (1, .int x1), (2, .int v2)] → W p l e ({ frames := 2, cells := 0, slots := 0, locals := 42 }) s m [.ref (ad 99), .int x1].toArray below meth c H locs 0 0 (MQ below (Ans G out A (dO G ad d_ad dw ++ [])) [.ref (ad 99), .int x1].toArray s 0 0 A) (F0 m 2 ls []) := by
    intro k2 hk2 v2 hf H locs hw ls hl
    unfold b_X9_freeSlot_2 at hf
    refine r_iload0 C hl 2 rfl dX9_freeSlot_2 ?_
    refine r_aload0 C hl 0 rfl dX9_freeSlot_3 ?_
    refine r_iload0 C hl 1 rfl dX9_freeSlot_4 ?_
    obtain ⟨u1, e1, hf⟩ := bx hf
    refine r_callVi (ws' := (dO G ad d_ad dw ++ [])) (As := [.int x1]) (rest := [.int v2]) C hw hl.1 kX9_classOf ml_X9_310 (c_X9_classOf l G ad _ d_ad dw x1 u1 e1) (CutX.take dO_f CutX.none) _ (gx_h dO_o) rfl ⟨rfl, rfl⟩ ⟨Nat.le_of_ble_eq_true rfl, Nat.le_of_ble_eq_true rfl⟩ rfl ⟨Nat.zero_le _, Nat.zero_le _⟩ rfl (Nat.le_of_ble_eq_true rfl) dX9_freeSlot_5 (fun H locs hw => ?_)
    obtain ⟨u2, e2, hf⟩ := bx hf
    refine r_callSi (ws' := (dO G ad d_ad dw ++ [])) (As := [.int u1]) (rest := [.int v2]) C hw hl.1 kX9_slotsOf ml_X9_295 (c_X9_slotsOf l G _ u1 u2 e2) CutX.none ⟨rfl, rfl⟩ ⟨Nat.le_of_ble_eq_true rfl, Nat.le_of_ble_eq_true rfl⟩ rfl ⟨Nat.zero_le _, Nat.zero_le _⟩ rfl (Nat.le_of_ble_eq_true rfl) dX9_freeSlot_8 (fun H locs hw => ?_)
    refine lv_icmp_ge (tgt := 35) C.1 C.2.1 dX9_freeSlot_11 (by decide) (fun hc => ?_) (fun hc => ?_)
    · replace hf := ifp hf hc
      refine lv_iconst (v := (-1)) C.1 C.2.1 dX9_freeSlot_35 (by decide) ?_
      exact fin_i C hw (Option.some.inj hf) (fun o => o) (fun o => (dO G ad d_ad dw ++ [])) rfl rfl dX9_freeSlot_36
    · replace hf := ifn hf hc
      refine r_aload0 C hl 0 rfl dX9_freeSlot_14 ?_
      refine r_get C hw _ (gx_h dO_o) 20 fl_X9_35 rfl dX9_freeSlot_15 ?_
      refine r_iload0 C hl 1 rfl dX9_freeSlot_18 ?_
      refine r_iload0 C hl 2 rfl dX9_freeSlot_19 ?_
      obtain ⟨u3, e3, hf⟩ := bx hf
      refine r_callSi (ws' := (dO G ad d_ad dw ++ [])) (As := [.int x1, .int v2]) (rest := [.ref (ad 20)]) C hw hl.1 kX9_slotAt ml_X9_304 (c_X9_slotAt l G _ x1 v2 u3 e3) CutX.none ⟨rfl, rfl⟩ ⟨Nat.le_of_ble_eq_true rfl, Nat.le_of_ble_eq_true rfl⟩ rfl ⟨Nat.zero_le _, Nat.zero_le _⟩ rfl (Nat.le_of_ble_eq_true rfl) dX9_freeSlot_20 (fun H locs hw => ?_)
      obtain ⟨v4_, e4, hf⟩ := bx hf
      refine r_iald C hw _ (gx_h dO_g20) e4 dX9_freeSlot_23 ?_
      refine lv_if_ne (tgt := 29) C.1 C.2.1 dX9_freeSlot_24 (by decide) (fun hc => ?_) (fun hc => ?_)
      · replace hf := ifn hf hc
        refine r_iinc C hl 2 (v2 + 1) [(2, .int (v2 + 1)), (0, .ref (ad 99)), (1, .int x1)] rfl (iinc_e (by decide)) (by decide) rfl dX9_freeSlot_29 (fun ls hl => ?_)
        refine lv_goto (tgt := 2) C.1 C.2.1 dX9_freeSlot_32 (by decide) ?_
        exact hk2 (v2 + 1) hf _ _ hw _ (lv_sub hl [1, 2, 0] rfl)
      · replace hf := ifp hf hc
        refine r_iload0 C hl 2 rfl dX9_freeSlot_27 ?_
        exact fin_i C hw (Option.some.inj hf) (fun o => o) (fun o => (dO G ad d_ad dw ++ [])) rfl rfl dX9_freeSlot_28
  have hL_2 : ∀ n : Nat, ∀ (v2 : Int32), L_X9_freeSlot_2 d_ad x1  n v2 = some out → ∀ (H : Heap) (locs : List Loc), Wd G A s H locs (dO G ad d_ad dw ++ []) → ∀ ls : Array Slot, lv_has ls 3 [(0, .ref (ad 99)), (1, .int x1), (2, .int v2)] → W p l e ({ frames := 2, cells := 0, slots := 0, locals := 42 }) s m [.ref (ad 99), .int x1].toArray below meth c H locs 0 0 (MQ below (Ans G out A (dO G ad d_ad dw ++ [])) [.ref (ad 99), .int x1].toArray s 0 0 A) (F0 m 2 ls []) := by
    intro  n
    induction n with
    | zero => intro v2 hf; cases hf
    | succ n ih => exact hB_2 _ ih
  unfold f_X9_freeSlot at hf
  refine lv_iconst (v := 0) C.1 C.2.1 dX9_freeSlot_0 (by decide) ?_
  refine r_istore0 C hl [(2, .int 0), (0, .ref (ad 99)), (1, .int x1)] (by decide) rfl dX9_freeSlot_1 (fun ls hl => ?_)
  exact hL_2  FU 0 hf _ _ hw _ (lv_sub hl [1, 2, 0] rfl)
set_option maxHeartbeats 4000000 in
set_option maxRecDepth 100000 in
theorem c_X9_fullestOf (l : Launch) (G : GG) (ad : Nat → Nat) (sz : Nat) (d_ad : Pic) (dw : Int64) (x1 : Int32) (x2 : Int32) (out : Int32) (hf : f_X9_fullestOf d_ad x1 x2 = some out) : Met l yX9_fullestOf (.code yX9_fullestOf cX9_fullestOf 5 (some .int) :: BT) ({ frames := 3, cells := 0, slots := 0, locals := 65 }) (va_Pc [.ref (ad 99), .int x1, .int x2] (PreW G sz (dO G ad d_ad dw ++ []))) (Ans G out (va_A (dO G ad d_ad dw ++ []) sz) (dO G ad d_ad dw ++ [])) 0 0 (va_A (dO G ad d_ad dw ++ []) sz) := by
  refine Met.into (by decide) (Nat.le_of_ble_eq_true rfl) ?_
  intro p e s m below meth c C hsz ls hl hw
  have hl : lv_has ls 5 [(0, .ref (ad 99)), (1, .int x1), (2, .int x2)] := hl
  clear hsz
  generalize va_A (dO G ad d_ad dw ++ []) sz = A at hw ⊢
  have hB_5 : ∀ (k5 : Int32 → Int32 → Option (Int32)) (hk5 : ∀ (v3 : Int32) (v4 : Int32), k5 v3 v4 = some out → ∀ (H : Heap) (locs : List Loc), Wd G A s H locs (dO G ad d_ad dw ++ []) → ∀ ls : Array Slot, lv_has ls 5 [(0, .ref (ad 99)), (1, .int x1), (2, .int x2), (3, .int v3), (4, .int v4)] → W p l e ({ frames := 3, cells := 0, slots := 0, locals := 65 }) s m [.ref (ad 99), .int x1, .int x2].toArray below meth c H locs 0 0 (MQ below (Ans G out A (dO G ad d_ad dw ++ [])) [.ref (ad 99), .int x1, .int x2].toArray s 0 0 A) (F0 m 5 ls [])), ∀ (v3 : Int32) (v4 : Int32), b_X9_fullestOf_5 d_ad x1 x2 k5 v3 v4 = some out → ∀ (H : Heap) (locs : List Loc), Wd G A s H locs (dO G ad d_ad dw ++ []) → ∀ ls : Array Slot, lv_has ls 5 [(0, .ref (ad 99)), (1, .int x1), (2, .int x2), (3, .int v3), (4, .int v4)] → W p l e ({ frames := 3, cells := 0, slots := 0, locals := 65 }) s m [.ref (ad 99), .int x1, .int x2].toArray below meth c H locs 0 0 (MQ below (Ans G out A (dO G ad d_ad dw ++ [])) [.ref (ad 99), .int x1, .int x2].toArray s 0 0 A) (F0 m 5 ls []) := by
    intro k5 hk5 v3 v4 hf H locs hw ls hl
    unfold b_X9_fullestOf_5 at hf
    refine r_iload C hl 4 rfl dX9_fullestOf_5 ?_
    refine lv_bipush (v := 24) C.1 C.2.1 dX9_fullestOf_7 (by decide) ?_
    refine lv_icmp_ge (tgt := 68) C.1 C.2.1 dX9_fullestOf_9 (by decide) (fun hc => ?_) (fun hc => ?_)
    · replace hf := ifp hf hc
      refine r_iload0 C hl 3 rfl dX9_fullestOf_68 ?_
      exact fin_i C hw (Option.some.inj hf) (fun o => o) (fun o => (dO G ad d_ad dw ++ [])) rfl rfl dX9_fullestOf_69
    · replace hf := ifn hf hc
      refine r_iload C hl 4 rfl dX9_fullestOf_12 ?_
      refine r_iload0 C hl 2 rfl dX9_fullestOf_14 ?_
      refine lv_icmp_eq (tgt := 62) C.1 C.2.1 dX9_fullestOf_15 (by decide) (fun hc => ?_) (fun hc => ?_)
      · replace hf := ifp hf hc
        refine r_iinc C hl 4 (v4 + 1) [(4, .int (v4 + 1)), (0, .ref (ad 99)), (1, .int x1), (2, .int x2), (3, .int v3)] rfl (iinc_e (by decide)) (by decide) rfl dX9_fullestOf_62 (fun ls hl => ?_)
        refine lv_goto (tgt := 5) C.1 C.2.1 dX9_fullestOf_65 (by decide) ?_
        exact hk5 v3 (v4 + 1) hf _ _ hw _ (lv_sub hl [1, 2, 3, 4, 0] rfl)
      · replace hf := ifn hf hc
        refine r_aload0 C hl 0 rfl dX9_fullestOf_18 ?_
        refine r_iload C hl 4 rfl dX9_fullestOf_19 ?_
        obtain ⟨u1, e1, hf⟩ := bx hf
        refine r_callVi (ws' := (dO G ad d_ad dw ++ [])) (As := [.int v4]) (rest := []) C hw hl.1 kX9_classOf ml_X9_310 (c_X9_classOf l G ad _ d_ad dw v4 u1 e1) (CutX.take dO_f CutX.none) _ (gx_h dO_o) rfl ⟨rfl, rfl⟩ ⟨Nat.le_of_ble_eq_true rfl, Nat.le_of_ble_eq_true rfl⟩ rfl ⟨Nat.zero_le _, Nat.zero_le _⟩ rfl (Nat.le_of_ble_eq_true rfl) dX9_fullestOf_21 (fun H locs hw => ?_)
        refine r_iload0 C hl 1 rfl dX9_fullestOf_24 ?_
        refine lv_icmp_ne (tgt := 62) C.1 C.2.1 dX9_fullestOf_25 (by decide) (fun hc => ?_) (fun hc => ?_)
        · replace hf := ifn hf hc
          refine r_iinc C hl 4 (v4 + 1) [(4, .int (v4 + 1)), (0, .ref (ad 99)), (1, .int x1), (2, .int x2), (3, .int v3)] rfl (iinc_e (by decide)) (by decide) rfl dX9_fullestOf_62 (fun ls hl => ?_)
          refine lv_goto (tgt := 5) C.1 C.2.1 dX9_fullestOf_65 (by decide) ?_
          exact hk5 v3 (v4 + 1) hf _ _ hw _ (lv_sub hl [1, 2, 3, 4, 0] rfl)
        · replace hf := ifp hf hc
          refine r_aload0 C hl 0 rfl dX9_fullestOf_28 ?_
          refine r_iload C hl 4 rfl dX9_fullestOf_29 ?_
          obtain ⟨u2, e2, hf⟩ := bx hf
          refine r_callVi (ws' := (dO G ad d_ad dw ++ [])) (As := [.int v4]) (rest := []) C hw hl.1 kX9_isFull ml_X9_313 (c_X9_isFull l G ad _ d_ad dw v4 u2 e2) (CutX.take dO_f CutX.none) _ (gx_h dO_o) rfl ⟨rfl, rfl⟩ ⟨Nat.le_of_ble_eq_true rfl, Nat.le_of_ble_eq_true rfl⟩ rfl ⟨Nat.zero_le _, Nat.zero_le _⟩ rfl (Nat.le_of_ble_eq_true rfl) dX9_fullestOf_31 (fun H locs hw => ?_)
          refine lv_if_eq (tgt := 40) C.1 C.2.1 dX9_fullestOf_34 (by decide) (fun hc => ?_) (fun hc => ?_)
          · replace hf := ifp hf hc
            refine r_iload0 C hl 3 rfl dX9_fullestOf_40 ?_
            refine lv_iconst (v := (-1)) C.1 C.2.1 dX9_fullestOf_41 (by decide) ?_
            refine lv_icmp_eq (tgt := 59) C.1 C.2.1 dX9_fullestOf_42 (by decide) (fun hc => ?_) (fun hc => ?_)
            · replace hf := ifp hf hc
              refine r_iload C hl 4 rfl dX9_fullestOf_59 ?_
              refine r_istore0 C hl [(3, .int v4), (0, .ref (ad 99)), (1, .int x1), (2, .int x2), (4, .int v4)] (by decide) rfl dX9_fullestOf_61 (fun ls hl => ?_)
              refine r_iinc C hl 4 (v4 + 1) [(4, .int (v4 + 1)), (3, .int v4), (0, .ref (ad 99)), (1, .int x1), (2, .int x2)] rfl (iinc_e (by decide)) (by decide) rfl dX9_fullestOf_62 (fun ls hl => ?_)
              refine lv_goto (tgt := 5) C.1 C.2.1 dX9_fullestOf_65 (by decide) ?_
              exact hk5 v4 (v4 + 1) hf _ _ hw _ (lv_sub hl [2, 3, 4, 1, 0] rfl)
            · replace hf := ifn hf hc
              refine r_aload0 C hl 0 rfl dX9_fullestOf_45 ?_
              refine r_iload C hl 4 rfl dX9_fullestOf_46 ?_
              obtain ⟨u3, e3, hf⟩ := bx hf
              refine r_callVi (ws' := (dO G ad d_ad dw ++ [])) (As := [.int v4]) (rest := []) C hw hl.1 kX9_fillOf ml_X9_307 (c_X9_fillOf l G ad _ d_ad dw v4 u3 e3) (CutX.take dO_f CutX.none) _ (gx_h dO_o) rfl ⟨rfl, rfl⟩ ⟨Nat.le_of_ble_eq_true rfl, Nat.le_of_ble_eq_true rfl⟩ rfl ⟨Nat.zero_le _, Nat.zero_le _⟩ rfl (Nat.le_of_ble_eq_true rfl) dX9_fullestOf_48 (fun H locs hw => ?_)
              refine r_aload0 C hl 0 rfl dX9_fullestOf_51 ?_
              refine r_iload0 C hl 3 rfl dX9_fullestOf_52 ?_
              obtain ⟨u4, e4, hf⟩ := bx hf
              refine r_callVi (ws' := (dO G ad d_ad dw ++ [])) (As := [.int v3]) (rest := [.int u3]) C hw hl.1 kX9_fillOf ml_X9_307 (c_X9_fillOf l G ad _ d_ad dw v3 u4 e4) (CutX.take dO_f CutX.none) _ (gx_h dO_o) rfl ⟨rfl, rfl⟩ ⟨Nat.le_of_ble_eq_true rfl, Nat.le_of_ble_eq_true rfl⟩ rfl ⟨Nat.zero_le _, Nat.zero_le _⟩ rfl (Nat.le_of_ble_eq_true rfl) dX9_fullestOf_53 (fun H locs hw => ?_)
              refine lv_icmp_le (tgt := 62) C.1 C.2.1 dX9_fullestOf_56 (by decide) (fun hc => ?_) (fun hc => ?_)
              · replace hf := ifp hf hc
                refine r_iinc C hl 4 (v4 + 1) [(4, .int (v4 + 1)), (0, .ref (ad 99)), (1, .int x1), (2, .int x2), (3, .int v3)] rfl (iinc_e (by decide)) (by decide) rfl dX9_fullestOf_62 (fun ls hl => ?_)
                refine lv_goto (tgt := 5) C.1 C.2.1 dX9_fullestOf_65 (by decide) ?_
                exact hk5 v3 (v4 + 1) hf _ _ hw _ (lv_sub hl [1, 2, 3, 4, 0] rfl)
              · replace hf := ifn hf hc
                refine r_iload C hl 4 rfl dX9_fullestOf_59 ?_
                refine r_istore0 C hl [(3, .int v4), (0, .ref (ad 99)), (1, .int x1), (2, .int x2), (4, .int v4)] (by decide) rfl dX9_fullestOf_61 (fun ls hl => ?_)
                refine r_iinc C hl 4 (v4 + 1) [(4, .int (v4 + 1)), (3, .int v4), (0, .ref (ad 99)), (1, .int x1), (2, .int x2)] rfl (iinc_e (by decide)) (by decide) rfl dX9_fullestOf_62 (fun ls hl => ?_)
                refine lv_goto (tgt := 5) C.1 C.2.1 dX9_fullestOf_65 (by decide) ?_
                exact hk5 v4 (v4 + 1) hf _ _ hw _ (lv_sub hl [2, 3, 4, 1, 0] rfl)
          · replace hf := ifn hf hc
            refine lv_goto (tgt := 62) C.1 C.2.1 dX9_fullestOf_37 (by decide) ?_
            refine r_iinc C hl 4 (v4 + 1) [(4, .int (v4 + 1)), (0, .ref (ad 99)), (1, .int x1), (2, .int x2), (3, .int v3)] rfl (iinc_e (by decide)) (by decide) rfl dX9_fullestOf_62 (fun ls hl => ?_)
            refine lv_goto (tgt := 5) C.1 C.2.1 dX9_fullestOf_65 (by decide) ?_
            exact hk5 v3 (v4 + 1) hf _ _ hw _ (lv_sub hl [1, 2, 3, 4, 0] rfl)
  have hL_5 : ∀ n : Nat, ∀ (v3 : Int32) (v4 : Int32), L_X9_fullestOf_5 d_ad x1 x2  n v3 v4 = some out → ∀ (H : Heap) (locs : List Loc), Wd G A s H locs (dO G ad d_ad dw ++ []) → ∀ ls : Array Slot, lv_has ls 5 [(0, .ref (ad 99)), (1, .int x1), (2, .int x2), (3, .int v3), (4, .int v4)] → W p l e ({ frames := 3, cells := 0, slots := 0, locals := 65 }) s m [.ref (ad 99), .int x1, .int x2].toArray below meth c H locs 0 0 (MQ below (Ans G out A (dO G ad d_ad dw ++ [])) [.ref (ad 99), .int x1, .int x2].toArray s 0 0 A) (F0 m 5 ls []) := by
    intro  n
    induction n with
    | zero => intro v3 v4 hf; cases hf
    | succ n ih => exact hB_5 _ ih
  unfold f_X9_fullestOf at hf
  refine lv_iconst (v := (-1)) C.1 C.2.1 dX9_fullestOf_0 (by decide) ?_
  refine r_istore0 C hl [(3, .int (-1)), (0, .ref (ad 99)), (1, .int x1), (2, .int x2)] (by decide) rfl dX9_fullestOf_1 (fun ls hl => ?_)
  refine lv_iconst (v := 0) C.1 C.2.1 dX9_fullestOf_2 (by decide) ?_
  refine r_istore C hl [(4, .int 0), (3, .int (-1)), (0, .ref (ad 99)), (1, .int x1), (2, .int x2)] (by decide) rfl dX9_fullestOf_3 (fun ls hl => ?_)
  exact hL_5  FU (-1) 0 hf _ _ hw _ (lv_sub hl [2, 3, 4, 1, 0] rfl)
set_option maxHeartbeats 4000000 in
set_option maxRecDepth 100000 in
theorem c_X9_emptiestOf (l : Launch) (G : GG) (ad : Nat → Nat) (sz : Nat) (d_ad : Pic) (dw : Int64) (x1 : Int32) (out : Int32) (hf : f_X9_emptiestOf d_ad x1 = some out) : Met l yX9_emptiestOf (.code yX9_emptiestOf cX9_emptiestOf 4 (some .int) :: BT) ({ frames := 3, cells := 0, slots := 0, locals := 65 }) (va_Pc [.ref (ad 99), .int x1] (PreW G sz (dO G ad d_ad dw ++ []))) (Ans G out (va_A (dO G ad d_ad dw ++ []) sz) (dO G ad d_ad dw ++ [])) 0 0 (va_A (dO G ad d_ad dw ++ []) sz) := by
  refine Met.into (by decide) (Nat.le_of_ble_eq_true rfl) ?_
  intro p e s m below meth c C hsz ls hl hw
  have hl : lv_has ls 4 [(0, .ref (ad 99)), (1, .int x1)] := hl
  clear hsz
  generalize va_A (dO G ad d_ad dw ++ []) sz = A at hw ⊢
  have hB_4 : ∀ (k4 : Int32 → Int32 → Option (Int32)) (hk4 : ∀ (v2 : Int32) (v3 : Int32), k4 v2 v3 = some out → ∀ (H : Heap) (locs : List Loc), Wd G A s H locs (dO G ad d_ad dw ++ []) → ∀ ls : Array Slot, lv_has ls 4 [(0, .ref (ad 99)), (1, .int x1), (2, .int v2), (3, .int v3)] → W p l e ({ frames := 3, cells := 0, slots := 0, locals := 65 }) s m [.ref (ad 99), .int x1].toArray below meth c H locs 0 0 (MQ below (Ans G out A (dO G ad d_ad dw ++ [])) [.ref (ad 99), .int x1].toArray s 0 0 A) (F0 m 4 ls [])), ∀ (v2 : Int32) (v3 : Int32), b_X9_emptiestOf_4 d_ad x1 k4 v2 v3 = some out → ∀ (H : Heap) (locs : List Loc), Wd G A s H locs (dO G ad d_ad dw ++ []) → ∀ ls : Array Slot, lv_has ls 4 [(0, .ref (ad 99)), (1, .int x1), (2, .int v2), (3, .int v3)] → W p l e ({ frames := 3, cells := 0, slots := 0, locals := 65 }) s m [.ref (ad 99), .int x1].toArray below meth c H locs 0 0 (MQ below (Ans G out A (dO G ad d_ad dw ++ [])) [.ref (ad 99), .int x1].toArray s 0 0 A) (F0 m 4 ls []) := by
    intro k4 hk4 v2 v3 hf H locs hw ls hl
    unfold b_X9_emptiestOf_4 at hf
    refine r_iload0 C hl 3 rfl dX9_emptiestOf_4 ?_
    refine lv_bipush (v := 24) C.1 C.2.1 dX9_emptiestOf_5 (by decide) ?_
    refine lv_icmp_ge (tgt := 56) C.1 C.2.1 dX9_emptiestOf_7 (by decide) (fun hc => ?_) (fun hc => ?_)
    · replace hf := ifp hf hc
      refine r_iload0 C hl 2 rfl dX9_emptiestOf_56 ?_
      exact fin_i C hw (Option.some.inj hf) (fun o => o) (fun o => (dO G ad d_ad dw ++ [])) rfl rfl dX9_emptiestOf_57
    · replace hf := ifn hf hc
      refine r_aload0 C hl 0 rfl dX9_emptiestOf_10 ?_
      refine r_iload0 C hl 3 rfl dX9_emptiestOf_11 ?_
      obtain ⟨u1, e1, hf⟩ := bx hf
      refine r_callVi (ws' := (dO G ad d_ad dw ++ [])) (As := [.int v3]) (rest := []) C hw hl.1 kX9_classOf ml_X9_310 (c_X9_classOf l G ad _ d_ad dw v3 u1 e1) (CutX.take dO_f CutX.none) _ (gx_h dO_o) rfl ⟨rfl, rfl⟩ ⟨Nat.le_of_ble_eq_true rfl, Nat.le_of_ble_eq_true rfl⟩ rfl ⟨Nat.zero_le _, Nat.zero_le _⟩ rfl (Nat.le_of_ble_eq_true rfl) dX9_emptiestOf_12 (fun H locs hw => ?_)
      refine r_iload0 C hl 1 rfl dX9_emptiestOf_15 ?_
      refine lv_icmp_ne (tgt := 50) C.1 C.2.1 dX9_emptiestOf_16 (by decide) (fun hc => ?_) (fun hc => ?_)
      · replace hf := ifn hf hc
        refine r_iinc C hl 3 (v3 + 1) [(3, .int (v3 + 1)), (0, .ref (ad 99)), (1, .int x1), (2, .int v2)] rfl (iinc_e (by decide)) (by decide) rfl dX9_emptiestOf_50 (fun ls hl => ?_)
        refine lv_goto (tgt := 4) C.1 C.2.1 dX9_emptiestOf_53 (by decide) ?_
        exact hk4 v2 (v3 + 1) hf _ _ hw _ (lv_sub hl [1, 2, 3, 0] rfl)
      · replace hf := ifp hf hc
        refine r_aload0 C hl 0 rfl dX9_emptiestOf_19 ?_
        refine r_iload0 C hl 3 rfl dX9_emptiestOf_20 ?_
        obtain ⟨u2, e2, hf⟩ := bx hf
        refine r_callVi (ws' := (dO G ad d_ad dw ++ [])) (As := [.int v3]) (rest := []) C hw hl.1 kX9_isFull ml_X9_313 (c_X9_isFull l G ad _ d_ad dw v3 u2 e2) (CutX.take dO_f CutX.none) _ (gx_h dO_o) rfl ⟨rfl, rfl⟩ ⟨Nat.le_of_ble_eq_true rfl, Nat.le_of_ble_eq_true rfl⟩ rfl ⟨Nat.zero_le _, Nat.zero_le _⟩ rfl (Nat.le_of_ble_eq_true rfl) dX9_emptiestOf_21 (fun H locs hw => ?_)
        refine lv_if_eq (tgt := 30) C.1 C.2.1 dX9_emptiestOf_24 (by decide) (fun hc => ?_) (fun hc => ?_)
        · replace hf := ifp hf hc
          refine r_iload0 C hl 2 rfl dX9_emptiestOf_30 ?_
          refine lv_iconst (v := (-1)) C.1 C.2.1 dX9_emptiestOf_31 (by decide) ?_
          refine lv_icmp_eq (tgt := 48) C.1 C.2.1 dX9_emptiestOf_32 (by decide) (fun hc => ?_) (fun hc => ?_)
          · replace hf := ifp hf hc
            refine r_iload0 C hl 3 rfl dX9_emptiestOf_48 ?_
            refine r_istore0 C hl [(2, .int v3), (0, .ref (ad 99)), (1, .int x1), (3, .int v3)] (by decide) rfl dX9_emptiestOf_49 (fun ls hl => ?_)
            refine r_iinc C hl 3 (v3 + 1) [(3, .int (v3 + 1)), (2, .int v3), (0, .ref (ad 99)), (1, .int x1)] rfl (iinc_e (by decide)) (by decide) rfl dX9_emptiestOf_50 (fun ls hl => ?_)
            refine lv_goto (tgt := 4) C.1 C.2.1 dX9_emptiestOf_53 (by decide) ?_
            exact hk4 v3 (v3 + 1) hf _ _ hw _ (lv_sub hl [2, 3, 1, 0] rfl)
          · replace hf := ifn hf hc
            refine r_aload0 C hl 0 rfl dX9_emptiestOf_35 ?_
            refine r_iload0 C hl 3 rfl dX9_emptiestOf_36 ?_
            obtain ⟨u3, e3, hf⟩ := bx hf
            refine r_callVi (ws' := (dO G ad d_ad dw ++ [])) (As := [.int v3]) (rest := []) C hw hl.1 kX9_fillOf ml_X9_307 (c_X9_fillOf l G ad _ d_ad dw v3 u3 e3) (CutX.take dO_f CutX.none) _ (gx_h dO_o) rfl ⟨rfl, rfl⟩ ⟨Nat.le_of_ble_eq_true rfl, Nat.le_of_ble_eq_true rfl⟩ rfl ⟨Nat.zero_le _, Nat.zero_le _⟩ rfl (Nat.le_of_ble_eq_true rfl) dX9_emptiestOf_37 (fun H locs hw => ?_)
            refine r_aload0 C hl 0 rfl dX9_emptiestOf_40 ?_
            refine r_iload0 C hl 2 rfl dX9_emptiestOf_41 ?_
            obtain ⟨u4, e4, hf⟩ := bx hf
            refine r_callVi (ws' := (dO G ad d_ad dw ++ [])) (As := [.int v2]) (rest := [.int u3]) C hw hl.1 kX9_fillOf ml_X9_307 (c_X9_fillOf l G ad _ d_ad dw v2 u4 e4) (CutX.take dO_f CutX.none) _ (gx_h dO_o) rfl ⟨rfl, rfl⟩ ⟨Nat.le_of_ble_eq_true rfl, Nat.le_of_ble_eq_true rfl⟩ rfl ⟨Nat.zero_le _, Nat.zero_le _⟩ rfl (Nat.le_of_ble_eq_true rfl) dX9_emptiestOf_42 (fun H locs hw => ?_)
            refine lv_icmp_gt (tgt := 50) C.1 C.2.1 dX9_emptiestOf_45 (by decide) (fun hc => ?_) (fun hc => ?_)
            · replace hf := ifp hf hc
              refine r_iinc C hl 3 (v3 + 1) [(3, .int (v3 + 1)), (0, .ref (ad 99)), (1, .int x1), (2, .int v2)] rfl (iinc_e (by decide)) (by decide) rfl dX9_emptiestOf_50 (fun ls hl => ?_)
              refine lv_goto (tgt := 4) C.1 C.2.1 dX9_emptiestOf_53 (by decide) ?_
              exact hk4 v2 (v3 + 1) hf _ _ hw _ (lv_sub hl [1, 2, 3, 0] rfl)
            · replace hf := ifn hf hc
              refine r_iload0 C hl 3 rfl dX9_emptiestOf_48 ?_
              refine r_istore0 C hl [(2, .int v3), (0, .ref (ad 99)), (1, .int x1), (3, .int v3)] (by decide) rfl dX9_emptiestOf_49 (fun ls hl => ?_)
              refine r_iinc C hl 3 (v3 + 1) [(3, .int (v3 + 1)), (2, .int v3), (0, .ref (ad 99)), (1, .int x1)] rfl (iinc_e (by decide)) (by decide) rfl dX9_emptiestOf_50 (fun ls hl => ?_)
              refine lv_goto (tgt := 4) C.1 C.2.1 dX9_emptiestOf_53 (by decide) ?_
              exact hk4 v3 (v3 + 1) hf _ _ hw _ (lv_sub hl [2, 3, 1, 0] rfl)
        · replace hf := ifn hf hc
          refine lv_goto (tgt := 50) C.1 C.2.1 dX9_emptiestOf_27 (by decide) ?_
          refine r_iinc C hl 3 (v3 + 1) [(3, .int (v3 + 1)), (0, .ref (ad 99)), (1, .int x1), (2, .int v2)] rfl (iinc_e (by decide)) (by decide) rfl dX9_emptiestOf_50 (fun ls hl => ?_)
          refine lv_goto (tgt := 4) C.1 C.2.1 dX9_emptiestOf_53 (by decide) ?_
          exact hk4 v2 (v3 + 1) hf _ _ hw _ (lv_sub hl [1, 2, 3, 0] rfl)
  have hL_4 : ∀ n : Nat, ∀ (v2 : Int32) (v3 : Int32), L_X9_emptiestOf_4 d_ad x1  n v2 v3 = some out → ∀ (H : Heap) (locs : List Loc), Wd G A s H locs (dO G ad d_ad dw ++ []) → ∀ ls : Array Slot, lv_has ls 4 [(0, .ref (ad 99)), (1, .int x1), (2, .int v2), (3, .int v3)] → W p l e ({ frames := 3, cells := 0, slots := 0, locals := 65 }) s m [.ref (ad 99), .int x1].toArray below meth c H locs 0 0 (MQ below (Ans G out A (dO G ad d_ad dw ++ [])) [.ref (ad 99), .int x1].toArray s 0 0 A) (F0 m 4 ls []) := by
    intro  n
    induction n with
    | zero => intro v2 v3 hf; cases hf
    | succ n ih => exact hB_4 _ ih
  unfold f_X9_emptiestOf at hf
  refine lv_iconst (v := (-1)) C.1 C.2.1 dX9_emptiestOf_0 (by decide) ?_
  refine r_istore0 C hl [(2, .int (-1)), (0, .ref (ad 99)), (1, .int x1)] (by decide) rfl dX9_emptiestOf_1 (fun ls hl => ?_)
  refine lv_iconst (v := 0) C.1 C.2.1 dX9_emptiestOf_2 (by decide) ?_
  refine r_istore0 C hl [(3, .int 0), (2, .int (-1)), (0, .ref (ad 99)), (1, .int x1)] (by decide) rfl dX9_emptiestOf_3 (fun ls hl => ?_)
  exact hL_4  FU (-1) 0 hf _ _ hw _ (lv_sub hl [2, 3, 1, 0] rfl)
set_option maxHeartbeats 4000000 in
set_option maxRecDepth 100000 in
theorem c_X9_zone (l : Launch) (G : GG) (ad : Nat → Nat) (sz : Nat) (d_ad : Pic) (dw : Int64) (x1 : Int32) (x2 : Int32) (out : Int32 × Pic) (hf : f_X9_zone d_ad x1 x2 = some out) : Met l yX9_zone (.code yX9_zone cX9_zone 3 (some .int) :: BT) ({ frames := 2, cells := 0, slots := 0, locals := 44 }) (va_Pc [.ref (ad 99), .int x1, .int x2] (PreW G sz (dO G ad d_ad dw ++ []))) (Ans G out.1 (va_A (dO G ad d_ad dw ++ []) sz) (dO G ad out.2 dw ++ [])) 0 0 (va_A (dO G ad d_ad dw ++ []) sz) := by
  refine Met.into (by decide) (Nat.le_of_ble_eq_true rfl) ?_
  intro p e s m below meth c C hsz ls hl hw
  have hl : lv_has ls 3 [(0, .ref (ad 99)), (1, .int x1), (2, .int x2)] := hl
  clear hsz
  generalize va_A (dO G ad d_ad dw ++ []) sz = A at hw ⊢
  have hB_22 : ∀ (d_ad : Pic), b_X9_zone_22 x1 x2  d_ad = some out → ∀ (H : Heap) (locs : List Loc), Wd G A s H locs (dO G ad d_ad dw ++ []) → ∀ ls : Array Slot, lv_has ls 3 [(0, .ref (ad 99))] → W p l e ({ frames := 2, cells := 0, slots := 0, locals := 44 }) s m [.ref (ad 99), .int x1, .int x2].toArray below meth c H locs 0 0 (MQ below (Ans G out.1 A (dO G ad out.2 dw ++ [])) [.ref (ad 99), .int x1, .int x2].toArray s 0 0 A) (F0 m 22 ls []) := by
    intro d_ad hf H locs hw ls hl
    unfold b_X9_zone_22 at hf
    refine r_aload0 C hl 0 rfl dX9_zone_22 ?_
    refine lv_iconst (v := 1) C.1 C.2.1 dX9_zone_23 (by decide) ?_
    obtain ⟨u3, e3, hf⟩ := bx hf
    refine r_callVi (ws' := (dO G ad u3.2 dw ++ [])) (As := [.int 1]) (rest := []) C hw hl.1 kX9_refused ml_X9_210 (c_X9_refused l G ad _ d_ad dw 1 u3 e3) (CutX.take dO_f CutX.none) _ (gx_h dO_o) rfl ⟨rfl, rfl⟩ ⟨Nat.le_of_ble_eq_true rfl, Nat.le_of_ble_eq_true rfl⟩ rfl ⟨Nat.zero_le _, Nat.zero_le _⟩ rfl (Nat.le_of_ble_eq_true rfl) dX9_zone_24 (fun H locs hw => ?_)
    exact fin_i C hw (Option.some.inj hf) (fun o => o.1) (fun o => (dO G ad o.2 dw ++ [])) rfl rfl dX9_zone_27
  have hB_62 : ∀ (d_ad : Pic) (t0 : Int32), b_X9_zone_62 x1 x2  d_ad t0 = some out → ∀ (H : Heap) (locs : List Loc), Wd G A s H locs (dO G ad d_ad dw ++ []) → ∀ ls : Array Slot, lv_has ls 3 [] → W p l e ({ frames := 2, cells := 0, slots := 0, locals := 44 }) s m [.ref (ad 99), .int x1, .int x2].toArray below meth c H locs 0 0 (MQ below (Ans G out.1 A (dO G ad out.2 dw ++ [])) [.ref (ad 99), .int x1, .int x2].toArray s 0 0 A) (F0 m 62 ls [.int t0, .ref (ad 99)]) := by
    intro d_ad t0 hf H locs hw ls hl
    unfold b_X9_zone_62 at hf
    obtain ⟨u6, e6, hf⟩ := bx hf
    refine r_callVi (ws' := (dO G ad u6.2 dw ++ [])) (As := [.int t0]) (rest := []) C hw hl.1 kX9_good ml_X9_222 (c_X9_good l G ad _ d_ad dw t0 u6 e6) (CutX.take dO_f CutX.none) _ (gx_h dO_o) rfl ⟨rfl, rfl⟩ ⟨Nat.le_of_ble_eq_true rfl, Nat.le_of_ble_eq_true rfl⟩ rfl ⟨Nat.zero_le _, Nat.zero_le _⟩ rfl (Nat.le_of_ble_eq_true rfl) dX9_zone_62 (fun H locs hw => ?_)
    exact fin_i C hw (Option.some.inj hf) (fun o => o.1) (fun o => (dO G ad o.2 dw ++ [])) rfl rfl dX9_zone_65
  unfold f_X9_zone at hf
  refine r_aload0 C hl 0 rfl dX9_zone_0 ?_
  refine lv_iconst (v := 0) C.1 C.2.1 dX9_zone_1 (by decide) ?_
  obtain ⟨d_ad1, e1, hf⟩ := bx hf
  refine r_put C hw _ (gx_h dO_o) 0 fp_X9_75 rfl rfl (Nat.le_of_ble_eq_true rfl) (dO G ad d_ad1 dw ++ []) (sx_h dO_o (dO_p0 e1)) dX9_zone_2 (fun H locs hw => ?_)
  refine r_aload0 C hl 0 rfl dX9_zone_5 ?_
  refine r_iload0 C hl 1 rfl dX9_zone_6 ?_
  obtain ⟨u2, e2, hf⟩ := bx hf
  refine r_callVi (ws' := (dO G ad d_ad1 dw ++ [])) (As := [.int x1]) (rest := []) C hw hl.1 kX9_isZone ml_X9_316 (c_X9_isZone l G ad _ d_ad1 dw x1 u2 e2) (CutX.take dO_f CutX.none) _ (gx_h dO_o) rfl ⟨rfl, rfl⟩ ⟨Nat.le_of_ble_eq_true rfl, Nat.le_of_ble_eq_true rfl⟩ rfl ⟨Nat.zero_le _, Nat.zero_le _⟩ rfl (Nat.le_of_ble_eq_true rfl) dX9_zone_7 (fun H locs hw => ?_)
  refine lv_if_eq (tgt := 22) C.1 C.2.1 dX9_zone_10 (by decide) (fun hc => ?_) (fun hc => ?_)
  · replace hf := ifp hf hc
    exact hB_22  d_ad1 hf _ _ hw _ (lv_sub hl [0] rfl)
  · replace hf := ifn hf hc
    refine r_iload0 C hl 2 rfl dX9_zone_13 ?_
    refine lv_iconst (v := 0) C.1 C.2.1 dX9_zone_14 (by decide) ?_
    refine lv_iconst (v := 2) C.1 C.2.1 dX9_zone_15 (by decide) ?_
    obtain ⟨u4, e4, hf⟩ := bx hf
    refine r_callSi (ws' := (dO G ad d_ad1 dw ++ [])) (As := [.int x2, .int 0, .int 2]) (rest := []) C hw hl.1 kX9_in ml_X9_100 (c_X9_in l G _ x2 0 2 u4 e4) CutX.none ⟨rfl, rfl⟩ ⟨Nat.le_of_ble_eq_true rfl, Nat.le_of_ble_eq_true rfl⟩ rfl ⟨Nat.zero_le _, Nat.zero_le _⟩ rfl (Nat.le_of_ble_eq_true rfl) dX9_zone_16 (fun H locs hw => ?_)
    refine lv_if_ne (tgt := 28) C.1 C.2.1 dX9_zone_19 (by decide) (fun hc => ?_) (fun hc => ?_)
    · replace hf := ifn hf hc
      refine r_aload0 C hl 0 rfl dX9_zone_28 ?_
      refine r_iload0 C hl 2 rfl dX9_zone_29 ?_
      refine lv_if_ne (tgt := 41) C.1 C.2.1 dX9_zone_30 (by decide) (fun hc => ?_) (fun hc => ?_)
      · replace hf := ifn hf hc
        refine r_iload0 C hl 2 rfl dX9_zone_41 ?_
        refine lv_iconst (v := 1) C.1 C.2.1 dX9_zone_42 (by decide) ?_
        refine lv_icmp_ne (tgt := 57) C.1 C.2.1 dX9_zone_43 (by decide) (fun hc => ?_) (fun hc => ?_)
        · replace hf := ifn hf hc
          refine r_aload0 C hl 0 rfl dX9_zone_57 ?_
          refine r_iload0 C hl 1 rfl dX9_zone_58 ?_
          obtain ⟨u5, e5, hf⟩ := bx hf
          refine r_callVi (ws' := (dO G ad d_ad1 dw ++ [])) (As := [.int x1]) (rest := [.ref (ad 99)]) C hw hl.1 kX9_fillOf ml_X9_307 (c_X9_fillOf l G ad _ d_ad1 dw x1 u5 e5) (CutX.take dO_f CutX.none) _ (gx_h dO_o) rfl ⟨rfl, rfl⟩ ⟨Nat.le_of_ble_eq_true rfl, Nat.le_of_ble_eq_true rfl⟩ rfl ⟨Nat.zero_le _, Nat.zero_le _⟩ rfl (Nat.le_of_ble_eq_true rfl) dX9_zone_59 (fun H locs hw => ?_)
          exact hB_62  d_ad1 u5 hf _ _ hw _ (lv_sub hl [] rfl)
        · replace hf := ifp hf hc
          refine r_aload0 C hl 0 rfl dX9_zone_46 ?_
          refine r_iload0 C hl 1 rfl dX9_zone_47 ?_
          obtain ⟨u7, e7, hf⟩ := bx hf
          refine r_callVi (ws' := (dO G ad d_ad1 dw ++ [])) (As := [.int x1]) (rest := [.ref (ad 99)]) C hw hl.1 kX9_classOf ml_X9_310 (c_X9_classOf l G ad _ d_ad1 dw x1 u7 e7) (CutX.take dO_f CutX.none) _ (gx_h dO_o) rfl ⟨rfl, rfl⟩ ⟨Nat.le_of_ble_eq_true rfl, Nat.le_of_ble_eq_true rfl⟩ rfl ⟨Nat.zero_le _, Nat.zero_le _⟩ rfl (Nat.le_of_ble_eq_true rfl) dX9_zone_48 (fun H locs hw => ?_)
          obtain ⟨u8, e8, hf⟩ := bx hf
          refine r_callSi (ws' := (dO G ad d_ad1 dw ++ [])) (As := [.int u7]) (rest := [.ref (ad 99)]) C hw hl.1 kX9_framesOf ml_X9_286 (c_X9_framesOf l G _ u7 u8 e8) CutX.none ⟨rfl, rfl⟩ ⟨Nat.le_of_ble_eq_true rfl, Nat.le_of_ble_eq_true rfl⟩ rfl ⟨Nat.zero_le _, Nat.zero_le _⟩ rfl (Nat.le_of_ble_eq_true rfl) dX9_zone_51 (fun H locs hw => ?_)
          refine lv_goto (tgt := 62) C.1 C.2.1 dX9_zone_54 (by decide) ?_
          exact hB_62  d_ad1 u8 hf _ _ hw _ (lv_sub hl [] rfl)
      · replace hf := ifp hf hc
        refine r_aload0 C hl 0 rfl dX9_zone_33 ?_
        refine r_iload0 C hl 1 rfl dX9_zone_34 ?_
        obtain ⟨u9, e9, hf⟩ := bx hf
        refine r_callVi (ws' := (dO G ad d_ad1 dw ++ [])) (As := [.int x1]) (rest := [.ref (ad 99)]) C hw hl.1 kX9_classOf ml_X9_310 (c_X9_classOf l G ad _ d_ad1 dw x1 u9 e9) (CutX.take dO_f CutX.none) _ (gx_h dO_o) rfl ⟨rfl, rfl⟩ ⟨Nat.le_of_ble_eq_true rfl, Nat.le_of_ble_eq_true rfl⟩ rfl ⟨Nat.zero_le _, Nat.zero_le _⟩ rfl (Nat.le_of_ble_eq_true rfl) dX9_zone_35 (fun H locs hw => ?_)
        refine lv_goto (tgt := 62) C.1 C.2.1 dX9_zone_38 (by decide) ?_
        exact hB_62  d_ad1 u9 hf _ _ hw _ (lv_sub hl [] rfl)
    · replace hf := ifp hf hc
      exact hB_22  d_ad1 hf _ _ hw _ (lv_sub hl [0] rfl)
set_option maxHeartbeats 4000000 in
set_option maxRecDepth 100000 in
theorem c_X9_slot (l : Launch) (G : GG) (ad : Nat → Nat) (sz : Nat) (d_ad : Pic) (dw : Int64) (x1 : Int32) (x2 : Int32) (out : Int32 × Pic) (hf : f_X9_slot d_ad x1 x2 = some out) : Met l yX9_slot (.code yX9_slot cX9_slot 3 (some .int) :: BT) ({ frames := 2, cells := 0, slots := 0, locals := 43 }) (va_Pc [.ref (ad 99), .int x1, .int x2] (PreW G sz (dO G ad d_ad dw ++ []))) (Ans G out.1 (va_A (dO G ad d_ad dw ++ []) sz) (dO G ad out.2 dw ++ [])) 0 0 (va_A (dO G ad d_ad dw ++ []) sz) := by
  refine Met.into (by decide) (Nat.le_of_ble_eq_true rfl) ?_
  intro p e s m below meth c C hsz ls hl hw
  have hl : lv_has ls 3 [(0, .ref (ad 99)), (1, .int x1), (2, .int x2)] := hl
  clear hsz
  generalize va_A (dO G ad d_ad dw ++ []) sz = A at hw ⊢
  have hB_29 : ∀ (d_ad : Pic), b_X9_slot_29 x1 x2  d_ad = some out → ∀ (H : Heap) (locs : List Loc), Wd G A s H locs (dO G ad d_ad dw ++ []) → ∀ ls : Array Slot, lv_has ls 3 [(0, .ref (ad 99))] → W p l e ({ frames := 2, cells := 0, slots := 0, locals := 43 }) s m [.ref (ad 99), .int x1, .int x2].toArray below meth c H locs 0 0 (MQ below (Ans G out.1 A (dO G ad out.2 dw ++ [])) [.ref (ad 99), .int x1, .int x2].toArray s 0 0 A) (F0 m 29 ls []) := by
    intro d_ad hf H locs hw ls hl
    unfold b_X9_slot_29 at hf
    refine r_aload0 C hl 0 rfl dX9_slot_29 ?_
    refine lv_iconst (v := 1) C.1 C.2.1 dX9_slot_30 (by decide) ?_
    obtain ⟨u3, e3, hf⟩ := bx hf
    refine r_callVi (ws' := (dO G ad u3.2 dw ++ [])) (As := [.int 1]) (rest := []) C hw hl.1 kX9_refused ml_X9_210 (c_X9_refused l G ad _ d_ad dw 1 u3 e3) (CutX.take dO_f CutX.none) _ (gx_h dO_o) rfl ⟨rfl, rfl⟩ ⟨Nat.le_of_ble_eq_true rfl, Nat.le_of_ble_eq_true rfl⟩ rfl ⟨Nat.zero_le _, Nat.zero_le _⟩ rfl (Nat.le_of_ble_eq_true rfl) dX9_slot_31 (fun H locs hw => ?_)
    exact fin_i C hw (Option.some.inj hf) (fun o => o.1) (fun o => (dO G ad o.2 dw ++ [])) rfl rfl dX9_slot_34
  have hB_66 : ∀ (d_ad : Pic) (t0 : Int32), b_X9_slot_66 x1 x2  d_ad t0 = some out → ∀ (H : Heap) (locs : List Loc), Wd G A s H locs (dO G ad d_ad dw ++ []) → ∀ ls : Array Slot, lv_has ls 3 [] → W p l e ({ frames := 2, cells := 0, slots := 0, locals := 43 }) s m [.ref (ad 99), .int x1, .int x2].toArray below meth c H locs 0 0 (MQ below (Ans G out.1 A (dO G ad out.2 dw ++ [])) [.ref (ad 99), .int x1, .int x2].toArray s 0 0 A) (F0 m 66 ls [.int t0, .ref (ad 99)]) := by
    intro d_ad t0 hf H locs hw ls hl
    unfold b_X9_slot_66 at hf
    obtain ⟨u10, e10, hf⟩ := bx hf
    refine r_callVi (ws' := (dO G ad u10.2 dw ++ [])) (As := [.int t0]) (rest := []) C hw hl.1 kX9_good ml_X9_222 (c_X9_good l G ad _ d_ad dw t0 u10 e10) (CutX.take dO_f CutX.none) _ (gx_h dO_o) rfl ⟨rfl, rfl⟩ ⟨Nat.le_of_ble_eq_true rfl, Nat.le_of_ble_eq_true rfl⟩ rfl ⟨Nat.zero_le _, Nat.zero_le _⟩ rfl (Nat.le_of_ble_eq_true rfl) dX9_slot_66 (fun H locs hw => ?_)
    exact fin_i C hw (Option.some.inj hf) (fun o => o.1) (fun o => (dO G ad o.2 dw ++ [])) rfl rfl dX9_slot_69
  unfold f_X9_slot at hf
  refine r_aload0 C hl 0 rfl dX9_slot_0 ?_
  refine lv_iconst (v := 0) C.1 C.2.1 dX9_slot_1 (by decide) ?_
  obtain ⟨d_ad1, e1, hf⟩ := bx hf
  refine r_put C hw _ (gx_h dO_o) 0 fp_X9_75 rfl rfl (Nat.le_of_ble_eq_true rfl) (dO G ad d_ad1 dw ++ []) (sx_h dO_o (dO_p0 e1)) dX9_slot_2 (fun H locs hw => ?_)
  refine r_aload0 C hl 0 rfl dX9_slot_5 ?_
  refine r_iload0 C hl 1 rfl dX9_slot_6 ?_
  obtain ⟨u2, e2, hf⟩ := bx hf
  refine r_callVi (ws' := (dO G ad d_ad1 dw ++ [])) (As := [.int x1]) (rest := []) C hw hl.1 kX9_isZone ml_X9_316 (c_X9_isZone l G ad _ d_ad1 dw x1 u2 e2) (CutX.take dO_f CutX.none) _ (gx_h dO_o) rfl ⟨rfl, rfl⟩ ⟨Nat.le_of_ble_eq_true rfl, Nat.le_of_ble_eq_true rfl⟩ rfl ⟨Nat.zero_le _, Nat.zero_le _⟩ rfl (Nat.le_of_ble_eq_true rfl) dX9_slot_7 (fun H locs hw => ?_)
  refine lv_if_eq (tgt := 29) C.1 C.2.1 dX9_slot_10 (by decide) (fun hc => ?_) (fun hc => ?_)
  · replace hf := ifp hf hc
    exact hB_29  d_ad1 hf _ _ hw _ (lv_sub hl [0] rfl)
  · replace hf := ifn hf hc
    refine r_iload0 C hl 2 rfl dX9_slot_13 ?_
    refine lv_if_lt (tgt := 29) C.1 C.2.1 dX9_slot_14 (by decide) (fun hc => ?_) (fun hc => ?_)
    · replace hf := ifp hf hc
      exact hB_29  d_ad1 hf _ _ hw _ (lv_sub hl [0] rfl)
    · replace hf := ifn hf hc
      refine r_iload0 C hl 2 rfl dX9_slot_17 ?_
      refine r_aload0 C hl 0 rfl dX9_slot_18 ?_
      refine r_iload0 C hl 1 rfl dX9_slot_19 ?_
      obtain ⟨u4, e4, hf⟩ := bx hf
      refine r_callVi (ws' := (dO G ad d_ad1 dw ++ [])) (As := [.int x1]) (rest := [.int x2]) C hw hl.1 kX9_classOf ml_X9_310 (c_X9_classOf l G ad _ d_ad1 dw x1 u4 e4) (CutX.take dO_f CutX.none) _ (gx_h dO_o) rfl ⟨rfl, rfl⟩ ⟨Nat.le_of_ble_eq_true rfl, Nat.le_of_ble_eq_true rfl⟩ rfl ⟨Nat.zero_le _, Nat.zero_le _⟩ rfl (Nat.le_of_ble_eq_true rfl) dX9_slot_20 (fun H locs hw => ?_)
      obtain ⟨u5, e5, hf⟩ := bx hf
      refine r_callSi (ws' := (dO G ad d_ad1 dw ++ [])) (As := [.int u4]) (rest := [.int x2]) C hw hl.1 kX9_slotsOf ml_X9_295 (c_X9_slotsOf l G _ u4 u5 e5) CutX.none ⟨rfl, rfl⟩ ⟨Nat.le_of_ble_eq_true rfl, Nat.le_of_ble_eq_true rfl⟩ rfl ⟨Nat.zero_le _, Nat.zero_le _⟩ rfl (Nat.le_of_ble_eq_true rfl) dX9_slot_23 (fun H locs hw => ?_)
      refine lv_icmp_lt (tgt := 35) C.1 C.2.1 dX9_slot_26 (by decide) (fun hc => ?_) (fun hc => ?_)
      · replace hf := ifp hf hc
        refine r_aload0 C hl 0 rfl dX9_slot_35 ?_
        refine r_aload0 C hl 0 rfl dX9_slot_36 ?_
        refine r_get C hw _ (gx_h dO_o) 20 fl_X9_35 rfl dX9_slot_37 ?_
        refine r_iload0 C hl 1 rfl dX9_slot_40 ?_
        refine r_iload0 C hl 2 rfl dX9_slot_41 ?_
        obtain ⟨u6, e6, hf⟩ := bx hf
        refine r_callSi (ws' := (dO G ad d_ad1 dw ++ [])) (As := [.int x1, .int x2]) (rest := [.ref (ad 20), .ref (ad 99)]) C hw hl.1 kX9_slotAt ml_X9_304 (c_X9_slotAt l G _ x1 x2 u6 e6) CutX.none ⟨rfl, rfl⟩ ⟨Nat.le_of_ble_eq_true rfl, Nat.le_of_ble_eq_true rfl⟩ rfl ⟨Nat.zero_le _, Nat.zero_le _⟩ rfl (Nat.le_of_ble_eq_true rfl) dX9_slot_42 (fun H locs hw => ?_)
        obtain ⟨v7_, e7, hf⟩ := bx hf
        refine r_iald C hw _ (gx_h dO_g20) e7 dX9_slot_45 ?_
        refine lv_if_ne (tgt := 54) C.1 C.2.1 dX9_slot_46 (by decide) (fun hc => ?_) (fun hc => ?_)
        · replace hf := ifn hf hc
          refine r_aload0 C hl 0 rfl dX9_slot_54 ?_
          refine r_get C hw _ (gx_h dO_o) 20 fl_X9_35 rfl dX9_slot_55 ?_
          refine r_iload0 C hl 1 rfl dX9_slot_58 ?_
          refine r_iload0 C hl 2 rfl dX9_slot_59 ?_
          obtain ⟨u8, e8, hf⟩ := bx hf
          refine r_callSi (ws' := (dO G ad d_ad1 dw ++ [])) (As := [.int x1, .int x2]) (rest := [.ref (ad 20), .ref (ad 99)]) C hw hl.1 kX9_slotAt ml_X9_304 (c_X9_slotAt l G _ x1 x2 u8 e8) CutX.none ⟨rfl, rfl⟩ ⟨Nat.le_of_ble_eq_true rfl, Nat.le_of_ble_eq_true rfl⟩ rfl ⟨Nat.zero_le _, Nat.zero_le _⟩ rfl (Nat.le_of_ble_eq_true rfl) dX9_slot_60 (fun H locs hw => ?_)
          obtain ⟨v9_, e9, hf⟩ := bx hf
          refine r_iald C hw _ (gx_h dO_g20) e9 dX9_slot_63 ?_
          refine lv_iconst (v := 1) C.1 C.2.1 dX9_slot_64 (by decide) ?_
          refine lv_isub C.1 C.2.1 dX9_slot_65 ?_
          exact hB_66  d_ad1 (v9_ - 1) hf _ _ hw _ (lv_sub hl [] rfl)
        · replace hf := ifp hf hc
          refine lv_bipush (v := (-2)) C.1 C.2.1 dX9_slot_49 (by decide) ?_
          refine lv_goto (tgt := 66) C.1 C.2.1 dX9_slot_51 (by decide) ?_
          exact hB_66  d_ad1 (-2) hf _ _ hw _ (lv_sub hl [] rfl)
      · replace hf := ifn hf hc
        exact hB_29  d_ad1 hf _ _ hw _ (lv_sub hl [0] rfl)
