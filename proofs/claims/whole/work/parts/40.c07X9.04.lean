set_option maxHeartbeats 4000000 in
set_option maxRecDepth 100000 in
theorem c_X9_isPage (l : Launch) (G : GG) (ad : Nat → Nat) (sz : Nat) (d_ad : Pic) (dw : Int64) (x1 : Int32) (out : Int32) (hf : f_X9_isPage d_ad x1 = some out) : Met l yX9_isPage (.code yX9_isPage cX9_isPage 2 (some .boolean) :: BT) ({ frames := 1, cells := 0, slots := 0, locals := 22 }) (va_Pc [.ref (ad 99), .int x1] (PreW G sz (dO G ad d_ad dw ++ []))) (Ans G out (va_A (dO G ad d_ad dw ++ []) sz) (dO G ad d_ad dw ++ [])) 0 0 (va_A (dO G ad d_ad dw ++ []) sz) := by
  refine Met.into (by decide) (Nat.le_of_ble_eq_true rfl) ?_
  intro p e s m below meth c C hsz ls hl hw
  have hl : lv_has ls 2 [(0, .ref (ad 99)), (1, .int x1)] := hl
  clear hsz
  generalize va_A (dO G ad d_ad dw ++ []) sz = A at hw ⊢
  unfold f_X9_isPage at hf
  refine r_aload0 C hl 0 rfl dX9_isPage_0 ?_
  refine r_get C hw _ (gx_h dO_o) 19 fl_X9_225 rfl dX9_isPage_1 ?_
  refine lv_if_eq (tgt := 21) C.1 C.2.1 dX9_isPage_4 (by decide) (fun hc => ?_) (fun hc => ?_)
  · replace hf := ifp hf hc
    refine lv_iconst (v := 0) C.1 C.2.1 dX9_isPage_21 (by decide) ?_
    exact fin_z C hw (by decide) (Option.some.inj hf) (fun o => o) (fun o => (dO G ad d_ad dw ++ [])) rfl rfl dX9_isPage_22
  · replace hf := ifn hf hc
    refine r_iload0 C hl 1 rfl dX9_isPage_7 ?_
    refine lv_iconst (v := 0) C.1 C.2.1 dX9_isPage_8 (by decide) ?_
    refine lv_bipush (v := 29) C.1 C.2.1 dX9_isPage_9 (by decide) ?_
    obtain ⟨u1, e1, hf⟩ := bx hf
    refine r_callSi (ws' := (dO G ad d_ad dw ++ [])) (As := [.int x1, .int 0, .int 29]) (rest := []) C hw hl.1 kX9_in ml_X9_100 (c_X9_in l G _ x1 0 29 u1 e1) CutX.none ⟨rfl, rfl⟩ ⟨Nat.le_of_ble_eq_true rfl, Nat.le_of_ble_eq_true rfl⟩ rfl ⟨Nat.zero_le _, Nat.zero_le _⟩ rfl (Nat.le_of_ble_eq_true rfl) dX9_isPage_11 (fun H locs hw => ?_)
    refine lv_if_eq (tgt := 21) C.1 C.2.1 dX9_isPage_14 (by decide) (fun hc => ?_) (fun hc => ?_)
    · replace hf := ifp hf hc
      refine lv_iconst (v := 0) C.1 C.2.1 dX9_isPage_21 (by decide) ?_
      exact fin_z C hw (by decide) (Option.some.inj hf) (fun o => o) (fun o => (dO G ad d_ad dw ++ [])) rfl rfl dX9_isPage_22
    · replace hf := ifn hf hc
      refine lv_iconst (v := 1) C.1 C.2.1 dX9_isPage_17 (by decide) ?_
      refine lv_goto (tgt := 22) C.1 C.2.1 dX9_isPage_18 (by decide) ?_
      exact fin_z C hw (by decide) (Option.some.inj hf) (fun o => o) (fun o => (dO G ad d_ad dw ++ [])) rfl rfl dX9_isPage_22
set_option maxHeartbeats 4000000 in
set_option maxRecDepth 100000 in
theorem c_X9_placeOf (l : Launch) (G : GG) (ad : Nat → Nat) (sz : Nat) (d_ad : Pic) (dw : Int64) (x1 : Int32) (out : Int32) (hf : f_X9_placeOf d_ad x1 = some out) : Met l yX9_placeOf (.code yX9_placeOf cX9_placeOf 2 (some .int) :: BT) ({ frames := 0, cells := 0, slots := 0, locals := 0 }) (va_Pc [.ref (ad 99), .int x1] (PreW G sz (dO G ad d_ad dw ++ []))) (Ans G out (va_A (dO G ad d_ad dw ++ []) sz) (dO G ad d_ad dw ++ [])) 0 0 (va_A (dO G ad d_ad dw ++ []) sz) := by
  refine Met.into (by decide) (Nat.le_of_ble_eq_true rfl) ?_
  intro p e s m below meth c C hsz ls hl hw
  have hl : lv_has ls 2 [(0, .ref (ad 99)), (1, .int x1)] := hl
  clear hsz
  generalize va_A (dO G ad d_ad dw ++ []) sz = A at hw ⊢
  unfold f_X9_placeOf at hf
  refine r_aload0 C hl 0 rfl dX9_placeOf_0 ?_
  refine r_get C hw _ (gx_h dO_o) 20 fl_X9_35 rfl dX9_placeOf_1 ?_
  refine lv_sipush (v := 165) C.1 C.2.1 dX9_placeOf_4 (by decide) ?_
  refine r_iload0 C hl 1 rfl dX9_placeOf_7 ?_
  refine lv_iadd C.1 C.2.1 dX9_placeOf_8 ?_
  obtain ⟨v1_, e1, hf⟩ := bx hf
  refine r_iald C hw _ (gx_h dO_g20) e1 dX9_placeOf_9 ?_
  exact fin_i C hw (Option.some.inj hf) (fun o => o) (fun o => (dO G ad d_ad dw ++ [])) rfl rfl dX9_placeOf_10
set_option maxHeartbeats 4000000 in
set_option maxRecDepth 100000 in
theorem c_X9_ageOf (l : Launch) (G : GG) (ad : Nat → Nat) (sz : Nat) (d_ad : Pic) (dw : Int64) (x1 : Int32) (out : Int32) (hf : f_X9_ageOf d_ad x1 = some out) : Met l yX9_ageOf (.code yX9_ageOf cX9_ageOf 3 (some .int) :: BT) ({ frames := 0, cells := 0, slots := 0, locals := 0 }) (va_Pc [.ref (ad 99), .int x1] (PreW G sz (dO G ad d_ad dw ++ []))) (Ans G out (va_A (dO G ad d_ad dw ++ []) sz) (dO G ad d_ad dw ++ [])) 0 0 (va_A (dO G ad d_ad dw ++ []) sz) := by
  refine Met.into (by decide) (Nat.le_of_ble_eq_true rfl) ?_
  intro p e s m below meth c C hsz ls hl hw
  have hl : lv_has ls 3 [(0, .ref (ad 99)), (1, .int x1)] := hl
  clear hsz
  generalize va_A (dO G ad d_ad dw ++ []) sz = A at hw ⊢
  have hB_2 : ∀ (k2 : Int32 → Option (Int32)) (hk2 : ∀ (v2 : Int32), k2 v2 = some out → ∀ (H : Heap) (locs : List Loc), Wd G A s H locs (dO G ad d_ad dw ++ []) → ∀ ls : Array Slot, lv_has ls 3 [(0, .ref (ad 99)), (1, .int x1), (2, .int v2)] → W p l e ({ frames := 0, cells := 0, slots := 0, locals := 0 }) s m [.ref (ad 99), .int x1].toArray below meth c H locs 0 0 (MQ below (Ans G out A (dO G ad d_ad dw ++ [])) [.ref (ad 99), .int x1].toArray s 0 0 A) (F0 m 2 ls [])), ∀ (v2 : Int32), b_X9_ageOf_2 d_ad x1 k2 v2 = some out → ∀ (H : Heap) (locs : List Loc), Wd G A s H locs (dO G ad d_ad dw ++ []) → ∀ ls : Array Slot, lv_has ls 3 [(0, .ref (ad 99)), (1, .int x1), (2, .int v2)] → W p l e ({ frames := 0, cells := 0, slots := 0, locals := 0 }) s m [.ref (ad 99), .int x1].toArray below meth c H locs 0 0 (MQ below (Ans G out A (dO G ad d_ad dw ++ [])) [.ref (ad 99), .int x1].toArray s 0 0 A) (F0 m 2 ls []) := by
    intro k2 hk2 v2 hf H locs hw ls hl
    unfold b_X9_ageOf_2 at hf
    refine r_iload0 C hl 2 rfl dX9_ageOf_2 ?_
    refine r_aload0 C hl 0 rfl dX9_ageOf_3 ?_
    refine r_get C hw _ (gx_h dO_o) 20 fl_X9_35 rfl dX9_ageOf_4 ?_
    refine lv_sipush (v := 315) C.1 C.2.1 dX9_ageOf_7 (by decide) ?_
    obtain ⟨v1_, e1, hf⟩ := bx hf
    refine r_iald C hw _ (gx_h dO_g20) e1 dX9_ageOf_10 ?_
    refine lv_icmp_ge (tgt := 36) C.1 C.2.1 dX9_ageOf_11 (by decide) (fun hc => ?_) (fun hc => ?_)
    · replace hf := ifp hf hc
      refine lv_iconst (v := (-1)) C.1 C.2.1 dX9_ageOf_36 (by decide) ?_
      exact fin_i C hw (Option.some.inj hf) (fun o => o) (fun o => (dO G ad d_ad dw ++ [])) rfl rfl dX9_ageOf_37
    · replace hf := ifn hf hc
      refine r_aload0 C hl 0 rfl dX9_ageOf_14 ?_
      refine r_get C hw _ (gx_h dO_o) 20 fl_X9_35 rfl dX9_ageOf_15 ?_
      refine lv_sipush (v := 285) C.1 C.2.1 dX9_ageOf_18 (by decide) ?_
      refine r_iload0 C hl 2 rfl dX9_ageOf_21 ?_
      refine lv_iadd C.1 C.2.1 dX9_ageOf_22 ?_
      obtain ⟨v2_, e2, hf⟩ := bx hf
      refine r_iald C hw _ (gx_h dO_g20) e2 dX9_ageOf_23 ?_
      refine r_iload0 C hl 1 rfl dX9_ageOf_24 ?_
      refine lv_icmp_ne (tgt := 30) C.1 C.2.1 dX9_ageOf_25 (by decide) (fun hc => ?_) (fun hc => ?_)
      · replace hf := ifn hf hc
        refine r_iinc C hl 2 (v2 + 1) [(2, .int (v2 + 1)), (0, .ref (ad 99)), (1, .int x1)] rfl (iinc_e (by decide)) (by decide) rfl dX9_ageOf_30 (fun ls hl => ?_)
        refine lv_goto (tgt := 2) C.1 C.2.1 dX9_ageOf_33 (by decide) ?_
        exact hk2 (v2 + 1) hf _ _ hw _ (lv_sub hl [1, 2, 0] rfl)
      · replace hf := ifp hf hc
        refine r_iload0 C hl 2 rfl dX9_ageOf_28 ?_
        exact fin_i C hw (Option.some.inj hf) (fun o => o) (fun o => (dO G ad d_ad dw ++ [])) rfl rfl dX9_ageOf_29
  have hL_2 : ∀ n : Nat, ∀ (v2 : Int32), L_X9_ageOf_2 d_ad x1  n v2 = some out → ∀ (H : Heap) (locs : List Loc), Wd G A s H locs (dO G ad d_ad dw ++ []) → ∀ ls : Array Slot, lv_has ls 3 [(0, .ref (ad 99)), (1, .int x1), (2, .int v2)] → W p l e ({ frames := 0, cells := 0, slots := 0, locals := 0 }) s m [.ref (ad 99), .int x1].toArray below meth c H locs 0 0 (MQ below (Ans G out A (dO G ad d_ad dw ++ [])) [.ref (ad 99), .int x1].toArray s 0 0 A) (F0 m 2 ls []) := by
    intro  n
    induction n with
    | zero => intro v2 hf; cases hf
    | succ n ih => exact hB_2 _ ih
  unfold f_X9_ageOf at hf
  refine lv_iconst (v := 0) C.1 C.2.1 dX9_ageOf_0 (by decide) ?_
  refine r_istore0 C hl [(2, .int 0), (0, .ref (ad 99)), (1, .int x1)] (by decide) rfl dX9_ageOf_1 (fun ls hl => ?_)
  exact hL_2  FU 0 hf _ _ hw _ (lv_sub hl [1, 2, 0] rfl)
set_option maxHeartbeats 4000000 in
set_option maxRecDepth 100000 in
theorem c_X9_growsOld (l : Launch) (G : GG) (ad : Nat → Nat) (sz : Nat) (d_ad : Pic) (dw : Int64) (x1 : Int32) (out : Pic) (hf : f_X9_growsOld d_ad x1 = some out) : Met l yX9_growsOld (.code yX9_growsOld cX9_growsOld 2 none :: BT) ({ frames := 0, cells := 0, slots := 0, locals := 0 }) (va_Pc [.ref (ad 99), .int x1] (PreW G sz (dO G ad d_ad dw ++ []))) (Don G (va_A (dO G ad d_ad dw ++ []) sz) (dO G ad out dw ++ [])) 0 0 (va_A (dO G ad d_ad dw ++ []) sz) := by
  refine Met.into (by decide) (Nat.le_of_ble_eq_true rfl) ?_
  intro p e s m below meth c C hsz ls hl hw
  have hl : lv_has ls 2 [(0, .ref (ad 99)), (1, .int x1)] := hl
  clear hsz
  generalize va_A (dO G ad d_ad dw ++ []) sz = A at hw ⊢
  unfold f_X9_growsOld at hf
  refine r_aload0 C hl 0 rfl dX9_growsOld_0 ?_
  refine r_get C hw _ (gx_h dO_o) 20 fl_X9_35 rfl dX9_growsOld_1 ?_
  refine lv_sipush (v := 285) C.1 C.2.1 dX9_growsOld_4 (by decide) ?_
  refine r_aload0 C hl 0 rfl dX9_growsOld_7 ?_
  refine r_get C hw _ (gx_h dO_o) 20 fl_X9_35 rfl dX9_growsOld_8 ?_
  refine lv_sipush (v := 315) C.1 C.2.1 dX9_growsOld_11 (by decide) ?_
  obtain ⟨v1_, e1, hf⟩ := bx hf
  refine r_iald C hw _ (gx_h dO_g20) e1 dX9_growsOld_14 ?_
  refine lv_iadd C.1 C.2.1 dX9_growsOld_15 ?_
  refine r_iload0 C hl 1 rfl dX9_growsOld_16 ?_
  obtain ⟨d_ad2, e2, hf⟩ := bx hf
  refine r_iast C hw _ (gx_h dO_g20) e2 (dO G ad d_ad2 dw ++ []) (fun h => (sx_h dO_g20 (dO_s20 h))) dX9_growsOld_17 (fun H locs hw => ?_)
  refine r_aload0 C hl 0 rfl dX9_growsOld_18 ?_
  refine r_get C hw _ (gx_h dO_o) 20 fl_X9_35 rfl dX9_growsOld_19 ?_
  refine lv_sipush (v := 315) C.1 C.2.1 dX9_growsOld_22 (by decide) ?_
  refine lv_dup2_11 C.1 C.2.1 dX9_growsOld_25 rfl rfl ?_
  obtain ⟨v3_, e3, hf⟩ := bx hf
  refine r_iald C hw _ (gx_h dO_g20) e3 dX9_growsOld_26 ?_
  refine lv_iconst (v := 1) C.1 C.2.1 dX9_growsOld_27 (by decide) ?_
  refine lv_iadd C.1 C.2.1 dX9_growsOld_28 ?_
  obtain ⟨d_ad4, e4, hf⟩ := bx hf
  refine r_iast C hw _ (gx_h dO_g20) e4 (dO G ad d_ad4 dw ++ []) (fun h => (sx_h dO_g20 (dO_s20 h))) dX9_growsOld_29 (fun H locs hw => ?_)
  exact fin_v C hw (Option.some.inj hf) (fun o => (dO G ad o dw ++ [])) rfl dX9_growsOld_30
set_option maxHeartbeats 4000000 in
set_option maxRecDepth 100000 in
theorem c_X9_forgets (l : Launch) (G : GG) (ad : Nat → Nat) (sz : Nat) (d_ad : Pic) (dw : Int64) (x1 : Int32) (out : Pic) (hf : f_X9_forgets d_ad x1 = some out) : Met l yX9_forgets (.code yX9_forgets cX9_forgets 4 none :: BT) ({ frames := 1, cells := 0, slots := 0, locals := 22 }) (va_Pc [.ref (ad 99), .int x1] (PreW G sz (dO G ad d_ad dw ++ []))) (Don G (va_A (dO G ad d_ad dw ++ []) sz) (dO G ad out dw ++ [])) 0 0 (va_A (dO G ad d_ad dw ++ []) sz) := by
  refine Met.into (by decide) (Nat.le_of_ble_eq_true rfl) ?_
  intro p e s m below meth c C hsz ls hl hw
  have hl : lv_has ls 4 [(0, .ref (ad 99)), (1, .int x1)] := hl
  clear hsz
  generalize va_A (dO G ad d_ad dw ++ []) sz = A at hw ⊢
  have hB_8 : ∀ (k8 : Pic → Int32 → Option (Pic)) (hk8 : ∀ (d_ad : Pic) (v3 : Int32), k8 d_ad v3 = some out → ∀ (H : Heap) (locs : List Loc), Wd G A s H locs (dO G ad d_ad dw ++ []) → ∀ ls : Array Slot, lv_has ls 4 [(0, .ref (ad 99)), (3, .int v3)] → W p l e ({ frames := 1, cells := 0, slots := 0, locals := 22 }) s m [.ref (ad 99), .int x1].toArray below meth c H locs 0 0 (MQ below (Don G A (dO G ad out dw ++ [])) [.ref (ad 99), .int x1].toArray s 0 0 A) (F0 m 8 ls [])), ∀ (d_ad : Pic) (v3 : Int32), b_X9_forgets_8 x1 k8 d_ad v3 = some out → ∀ (H : Heap) (locs : List Loc), Wd G A s H locs (dO G ad d_ad dw ++ []) → ∀ ls : Array Slot, lv_has ls 4 [(0, .ref (ad 99)), (3, .int v3)] → W p l e ({ frames := 1, cells := 0, slots := 0, locals := 22 }) s m [.ref (ad 99), .int x1].toArray below meth c H locs 0 0 (MQ below (Don G A (dO G ad out dw ++ [])) [.ref (ad 99), .int x1].toArray s 0 0 A) (F0 m 8 ls []) := by
    intro k8 hk8 d_ad v3 hf H locs hw ls hl
    unfold b_X9_forgets_8 at hf
    refine r_iload0 C hl 1 rfl dX9_forgets_8 ?_
    refine lv_iconst (v := 1) C.1 C.2.1 dX9_forgets_9 (by decide) ?_
    refine lv_iadd C.1 C.2.1 dX9_forgets_10 ?_
    refine r_aload0 C hl 0 rfl dX9_forgets_11 ?_
    refine r_get C hw _ (gx_h dO_o) 20 fl_X9_35 rfl dX9_forgets_12 ?_
    refine lv_sipush (v := 315) C.1 C.2.1 dX9_forgets_15 (by decide) ?_
    obtain ⟨v2_, e2, hf⟩ := bx hf
    refine r_iald C hw _ (gx_h dO_g20) e2 dX9_forgets_18 ?_
    refine lv_icmp_ge (tgt := 50) C.1 C.2.1 dX9_forgets_19 (by decide) (fun hc => ?_) (fun hc => ?_)
    · replace hf := ifp hf hc
      refine r_aload0 C hl 0 rfl dX9_forgets_50 ?_
      refine r_get C hw _ (gx_h dO_o) 20 fl_X9_35 rfl dX9_forgets_51 ?_
      refine lv_sipush (v := 315) C.1 C.2.1 dX9_forgets_54 (by decide) ?_
      refine lv_dup2_11 C.1 C.2.1 dX9_forgets_57 rfl rfl ?_
      obtain ⟨v3_, e3, hf⟩ := bx hf
      refine r_iald C hw _ (gx_h dO_g20) e3 dX9_forgets_58 ?_
      refine lv_iconst (v := 1) C.1 C.2.1 dX9_forgets_59 (by decide) ?_
      refine lv_isub C.1 C.2.1 dX9_forgets_60 ?_
      obtain ⟨d_ad4, e4, hf⟩ := bx hf
      refine r_iast C hw _ (gx_h dO_g20) e4 (dO G ad d_ad4 dw ++ []) (fun h => (sx_h dO_g20 (dO_s20 h))) dX9_forgets_61 (fun H locs hw => ?_)
      exact fin_v C hw (Option.some.inj hf) (fun o => (dO G ad o dw ++ [])) rfl dX9_forgets_62
    · replace hf := ifn hf hc
      refine r_aload0 C hl 0 rfl dX9_forgets_22 ?_
      refine r_get C hw _ (gx_h dO_o) 20 fl_X9_35 rfl dX9_forgets_23 ?_
      refine lv_sipush (v := 285) C.1 C.2.1 dX9_forgets_26 (by decide) ?_
      refine r_iload0 C hl 1 rfl dX9_forgets_29 ?_
      refine lv_iadd C.1 C.2.1 dX9_forgets_30 ?_
      refine r_aload0 C hl 0 rfl dX9_forgets_31 ?_
      refine r_get C hw _ (gx_h dO_o) 20 fl_X9_35 rfl dX9_forgets_32 ?_
      refine lv_sipush (v := 285) C.1 C.2.1 dX9_forgets_35 (by decide) ?_
      refine r_iload0 C hl 1 rfl dX9_forgets_38 ?_
      refine lv_iadd C.1 C.2.1 dX9_forgets_39 ?_
      refine lv_iconst (v := 1) C.1 C.2.1 dX9_forgets_40 (by decide) ?_
      refine lv_iadd C.1 C.2.1 dX9_forgets_41 ?_
      obtain ⟨v5_, e5, hf⟩ := bx hf
      refine r_iald C hw _ (gx_h dO_g20) e5 dX9_forgets_42 ?_
      obtain ⟨d_ad6, e6, hf⟩ := bx hf
      refine r_iast C hw _ (gx_h dO_g20) e6 (dO G ad d_ad6 dw ++ []) (fun h => (sx_h dO_g20 (dO_s20 h))) dX9_forgets_43 (fun H locs hw => ?_)
      refine r_iinc C hl 1 (v3 + 1) [(3, .int (v3 + 1)), (0, .ref (ad 99))] rfl (iinc_e (by decide)) (by decide) rfl dX9_forgets_44 (fun ls hl => ?_)
      refine lv_goto (tgt := 8) C.1 C.2.1 dX9_forgets_47 (by decide) ?_
      exact hk8 d_ad6 (v3 + 1) hf _ _ hw _ (lv_sub hl [1, 0] rfl)
  have hL_8 : ∀ n : Nat, ∀ (d_ad : Pic) (v3 : Int32), L_X9_forgets_8 x1  n d_ad v3 = some out → ∀ (H : Heap) (locs : List Loc), Wd G A s H locs (dO G ad d_ad dw ++ []) → ∀ ls : Array Slot, lv_has ls 4 [(0, .ref (ad 99)), (3, .int v3)] → W p l e ({ frames := 1, cells := 0, slots := 0, locals := 22 }) s m [.ref (ad 99), .int x1].toArray below meth c H locs 0 0 (MQ below (Don G A (dO G ad out dw ++ [])) [.ref (ad 99), .int x1].toArray s 0 0 A) (F0 m 8 ls []) := by
    intro  n
    induction n with
    | zero => intro d_ad v3 hf; cases hf
    | succ n ih => exact hB_8 _ ih
  unfold f_X9_forgets at hf
  refine r_aload0 C hl 0 rfl dX9_forgets_0 ?_
  refine r_iload0 C hl 1 rfl dX9_forgets_1 ?_
  obtain ⟨u1, e1, hf⟩ := bx hf
  refine r_callVi (ws' := (dO G ad d_ad dw ++ [])) (As := [.int x1]) (rest := []) C hw hl.1 kX9_ageOf ml_X9_319 (c_X9_ageOf l G ad _ d_ad dw x1 u1 e1) (CutX.take dO_f CutX.none) _ (gx_h dO_o) rfl ⟨rfl, rfl⟩ ⟨Nat.le_of_ble_eq_true rfl, Nat.le_of_ble_eq_true rfl⟩ rfl ⟨Nat.zero_le _, Nat.zero_le _⟩ rfl (Nat.le_of_ble_eq_true rfl) dX9_forgets_2 (fun H locs hw => ?_)
  refine r_istore0 C hl [(2, .int u1), (0, .ref (ad 99)), (1, .int x1)] (by decide) rfl dX9_forgets_5 (fun ls hl => ?_)
  refine r_iload0 C hl 0 rfl dX9_forgets_6 ?_
  refine r_istore0 C hl [(3, .int u1), (2, .int u1), (0, .ref (ad 99)), (1, .int x1)] (by decide) rfl dX9_forgets_7 (fun ls hl => ?_)
  exact hL_8  FU d_ad u1 hf _ _ hw _ (lv_sub hl [2, 0] rfl)
set_option maxHeartbeats 4000000 in
set_option maxRecDepth 100000 in
theorem c_X9_comesInto (l : Launch) (G : GG) (ad : Nat → Nat) (sz : Nat) (d_ad : Pic) (dw : Int64) (x1 : Int32) (x2 : Int32) (out : Pic) (hf : f_X9_comesInto d_ad x1 x2 = some out) : Met l yX9_comesInto (.code yX9_comesInto cX9_comesInto 4 none :: BT) ({ frames := 3, cells := 0, slots := 0, locals := 64 }) (va_Pc [.ref (ad 99), .int x1, .int x2] (PreW G sz (dO G ad d_ad dw ++ []))) (Don G (va_A (dO G ad d_ad dw ++ []) sz) (dO G ad out dw ++ [])) 0 0 (va_A (dO G ad d_ad dw ++ []) sz) := by
  refine Met.into (by decide) (Nat.le_of_ble_eq_true rfl) ?_
  intro p e s m below meth c C hsz ls hl hw
  have hl : lv_has ls 4 [(0, .ref (ad 99)), (1, .int x1), (2, .int x2)] := hl
  clear hsz
  generalize va_A (dO G ad d_ad dw ++ []) sz = A at hw ⊢
  unfold f_X9_comesInto at hf
  refine r_aload0 C hl 0 rfl dX9_comesInto_0 ?_
  refine r_iload0 C hl 2 rfl dX9_comesInto_1 ?_
  obtain ⟨u1, e1, hf⟩ := bx hf
  refine r_callVi (ws' := (dO G ad d_ad dw ++ [])) (As := [.int x2]) (rest := []) C hw hl.1 kX9_freeSlot ml_X9_322 (c_X9_freeSlot l G ad _ d_ad dw x2 u1 e1) (CutX.take dO_f CutX.none) _ (gx_h dO_o) rfl ⟨rfl, rfl⟩ ⟨Nat.le_of_ble_eq_true rfl, Nat.le_of_ble_eq_true rfl⟩ rfl ⟨Nat.zero_le _, Nat.zero_le _⟩ rfl (Nat.le_of_ble_eq_true rfl) dX9_comesInto_2 (fun H locs hw => ?_)
  refine r_istore0 C hl [(3, .int u1), (0, .ref (ad 99)), (1, .int x1), (2, .int x2)] (by decide) rfl dX9_comesInto_5 (fun ls hl => ?_)
  refine r_aload0 C hl 1 rfl dX9_comesInto_6 ?_
  refine r_get C hw _ (gx_h dO_o) 20 fl_X9_35 rfl dX9_comesInto_7 ?_
  refine r_iload0 C hl 3 rfl dX9_comesInto_10 ?_
  refine r_iload0 C hl 0 rfl dX9_comesInto_11 ?_
  obtain ⟨u2, e2, hf⟩ := bx hf
  refine r_callSi (ws' := (dO G ad d_ad dw ++ [])) (As := [.int x2, .int u1]) (rest := [.ref (ad 20)]) C hw hl.1 kX9_slotAt ml_X9_304 (c_X9_slotAt l G _ x2 u1 u2 e2) CutX.none ⟨rfl, rfl⟩ ⟨Nat.le_of_ble_eq_true rfl, Nat.le_of_ble_eq_true rfl⟩ rfl ⟨Nat.zero_le _, Nat.zero_le _⟩ rfl (Nat.le_of_ble_eq_true rfl) dX9_comesInto_12 (fun H locs hw => ?_)
  refine r_iload0 C hl 2 rfl dX9_comesInto_15 ?_
  refine lv_iconst (v := 1) C.1 C.2.1 dX9_comesInto_16 (by decide) ?_
  refine lv_iadd C.1 C.2.1 dX9_comesInto_17 ?_
  obtain ⟨d_ad3, e3, hf⟩ := bx hf
  refine r_iast C hw _ (gx_h dO_g20) e3 (dO G ad d_ad3 dw ++ []) (fun h => (sx_h dO_g20 (dO_s20 h))) dX9_comesInto_18 (fun H locs hw => ?_)
  refine r_aload0 C hl 1 rfl dX9_comesInto_19 ?_
  refine r_get C hw _ (gx_h dO_o) 20 fl_X9_35 rfl dX9_comesInto_20 ?_
  refine lv_sipush (v := 225) C.1 C.2.1 dX9_comesInto_23 (by decide) ?_
  refine r_iload0 C hl 2 rfl dX9_comesInto_26 ?_
  refine lv_iadd C.1 C.2.1 dX9_comesInto_27 ?_
  refine r_iload0 C hl 3 rfl dX9_comesInto_28 ?_
  obtain ⟨d_ad4, e4, hf⟩ := bx hf
  refine r_iast C hw _ (gx_h dO_g20) e4 (dO G ad d_ad4 dw ++ []) (fun h => (sx_h dO_g20 (dO_s20 h))) dX9_comesInto_29 (fun H locs hw => ?_)
  refine r_aload0 C hl 1 rfl dX9_comesInto_30 ?_
  refine r_get C hw _ (gx_h dO_o) 20 fl_X9_35 rfl dX9_comesInto_31 ?_
  refine lv_sipush (v := 255) C.1 C.2.1 dX9_comesInto_34 (by decide) ?_
  refine r_iload0 C hl 2 rfl dX9_comesInto_37 ?_
  refine lv_iadd C.1 C.2.1 dX9_comesInto_38 ?_
  refine r_iload0 C hl 0 rfl dX9_comesInto_39 ?_
  obtain ⟨d_ad5, e5, hf⟩ := bx hf
  refine r_iast C hw _ (gx_h dO_g20) e5 (dO G ad d_ad5 dw ++ []) (fun h => (sx_h dO_g20 (dO_s20 h))) dX9_comesInto_40 (fun H locs hw => ?_)
  refine r_aload0 C hl 1 rfl dX9_comesInto_41 ?_
  refine r_get C hw _ (gx_h dO_o) 20 fl_X9_35 rfl dX9_comesInto_42 ?_
  refine lv_sipush (v := 165) C.1 C.2.1 dX9_comesInto_45 (by decide) ?_
  refine r_iload0 C hl 2 rfl dX9_comesInto_48 ?_
  refine lv_iadd C.1 C.2.1 dX9_comesInto_49 ?_
  refine lv_iconst (v := 2) C.1 C.2.1 dX9_comesInto_50 (by decide) ?_
  obtain ⟨d_ad6, e6, hf⟩ := bx hf
  refine r_iast C hw _ (gx_h dO_g20) e6 (dO G ad d_ad6 dw ++ []) (fun h => (sx_h dO_g20 (dO_s20 h))) dX9_comesInto_51 (fun H locs hw => ?_)
  exact fin_v C hw (Option.some.inj hf) (fun o => (dO G ad o dw ++ [])) rfl dX9_comesInto_52
set_option maxHeartbeats 4000000 in
set_option maxRecDepth 100000 in
theorem c_X9_leaves (l : Launch) (G : GG) (ad : Nat → Nat) (sz : Nat) (d_ad : Pic) (dw : Int64) (x1 : Int32) (out : Pic) (hf : f_X9_leaves d_ad x1 = some out) : Met l yX9_leaves (.code yX9_leaves cX9_leaves 3 none :: BT) ({ frames := 2, cells := 0, slots := 0, locals := 44 }) (va_Pc [.ref (ad 99), .int x1] (PreW G sz (dO G ad d_ad dw ++ []))) (Don G (va_A (dO G ad d_ad dw ++ []) sz) (dO G ad out dw ++ [])) 0 0 (va_A (dO G ad d_ad dw ++ []) sz) := by
  refine Met.into (by decide) (Nat.le_of_ble_eq_true rfl) ?_
  intro p e s m below meth c C hsz ls hl hw
  have hl : lv_has ls 3 [(0, .ref (ad 99)), (1, .int x1)] := hl
  clear hsz
  generalize va_A (dO G ad d_ad dw ++ []) sz = A at hw ⊢
  unfold f_X9_leaves at hf
  refine r_aload0 C hl 0 rfl dX9_leaves_0 ?_
  refine r_get C hw _ (gx_h dO_o) 20 fl_X9_35 rfl dX9_leaves_1 ?_
  refine lv_sipush (v := 225) C.1 C.2.1 dX9_leaves_4 (by decide) ?_
  refine r_iload0 C hl 1 rfl dX9_leaves_7 ?_
  refine lv_iadd C.1 C.2.1 dX9_leaves_8 ?_
  obtain ⟨v1_, e1, hf⟩ := bx hf
  refine r_iald C hw _ (gx_h dO_g20) e1 dX9_leaves_9 ?_
  refine r_istore0 C hl [(2, .int v1_), (0, .ref (ad 99)), (1, .int x1)] (by decide) rfl dX9_leaves_10 (fun ls hl => ?_)
  refine r_aload0 C hl 1 rfl dX9_leaves_11 ?_
  refine r_get C hw _ (gx_h dO_o) 20 fl_X9_35 rfl dX9_leaves_12 ?_
  refine r_iload0 C hl 0 rfl dX9_leaves_15 ?_
  refine r_aload0 C hl 1 rfl dX9_leaves_16 ?_
  refine r_get C hw _ (gx_h dO_o) 20 fl_X9_35 rfl dX9_leaves_17 ?_
  refine lv_sipush (v := 255) C.1 C.2.1 dX9_leaves_20 (by decide) ?_
  refine r_iload0 C hl 2 rfl dX9_leaves_23 ?_
  refine lv_iadd C.1 C.2.1 dX9_leaves_24 ?_
  obtain ⟨v2_, e2, hf⟩ := bx hf
  refine r_iald C hw _ (gx_h dO_g20) e2 dX9_leaves_25 ?_
  obtain ⟨u3, e3, hf⟩ := bx hf
  refine r_callSi (ws' := (dO G ad d_ad dw ++ [])) (As := [.int v1_, .int v2_]) (rest := [.ref (ad 20)]) C hw hl.1 kX9_slotAt ml_X9_304 (c_X9_slotAt l G _ v1_ v2_ u3 e3) CutX.none ⟨rfl, rfl⟩ ⟨Nat.le_of_ble_eq_true rfl, Nat.le_of_ble_eq_true rfl⟩ rfl ⟨Nat.zero_le _, Nat.zero_le _⟩ rfl (Nat.le_of_ble_eq_true rfl) dX9_leaves_26 (fun H locs hw => ?_)
  refine lv_iconst (v := 0) C.1 C.2.1 dX9_leaves_29 (by decide) ?_
  obtain ⟨d_ad4, e4, hf⟩ := bx hf
  refine r_iast C hw _ (gx_h dO_g20) e4 (dO G ad d_ad4 dw ++ []) (fun h => (sx_h dO_g20 (dO_s20 h))) dX9_leaves_30 (fun H locs hw => ?_)
  refine r_aload0 C hl 1 rfl dX9_leaves_31 ?_
  refine r_iload0 C hl 0 rfl dX9_leaves_32 ?_
  obtain ⟨u5, e5, hf⟩ := bx hf
  refine r_callVi (ws' := (dO G ad d_ad4 dw ++ [])) (As := [.int v1_]) (rest := []) C hw hl.1 kX9_fillOf ml_X9_307 (c_X9_fillOf l G ad _ d_ad4 dw v1_ u5 e5) (CutX.take dO_f CutX.none) _ (gx_h dO_o) rfl ⟨rfl, rfl⟩ ⟨Nat.le_of_ble_eq_true rfl, Nat.le_of_ble_eq_true rfl⟩ rfl ⟨Nat.zero_le _, Nat.zero_le _⟩ rfl (Nat.le_of_ble_eq_true rfl) dX9_leaves_33 (fun H locs hw => ?_)
  refine lv_if_ne (tgt := 50) C.1 C.2.1 dX9_leaves_36 (by decide) (fun hc => ?_) (fun hc => ?_)
  · replace hf := ifn hf hc
    exact fin_v C hw (Option.some.inj hf) (fun o => (dO G ad o dw ++ [])) rfl dX9_leaves_50
  · replace hf := ifp hf hc
    refine r_aload0 C hl 1 rfl dX9_leaves_39 ?_
    refine r_get C hw _ (gx_h dO_o) 20 fl_X9_35 rfl dX9_leaves_40 ?_
    refine lv_sipush (v := 796) C.1 C.2.1 dX9_leaves_43 (by decide) ?_
    refine r_iload0 C hl 0 rfl dX9_leaves_46 ?_
    refine lv_iadd C.1 C.2.1 dX9_leaves_47 ?_
    refine lv_iconst (v := 0) C.1 C.2.1 dX9_leaves_48 (by decide) ?_
    obtain ⟨d_ad6, e6, hf⟩ := bx hf
    refine r_iast C hw _ (gx_h dO_g20) e6 (dO G ad d_ad6 dw ++ []) (fun h => (sx_h dO_g20 (dO_s20 h))) dX9_leaves_49 (fun H locs hw => ?_)
    exact fin_v C hw (Option.some.inj hf) (fun o => (dO G ad o dw ++ [])) rfl dX9_leaves_50
set_option maxHeartbeats 4000000 in
set_option maxRecDepth 100000 in
theorem c_X9_dropsOne (l : Launch) (G : GG) (ad : Nat → Nat) (sz : Nat) (d_ad : Pic) (dw : Int64) (x1 : Int32) (out : Pic) (hf : f_X9_dropsOne d_ad x1 = some out) : Met l yX9_dropsOne (.code yX9_dropsOne cX9_dropsOne 2 none :: BT) ({ frames := 3, cells := 0, slots := 0, locals := 66 }) (va_Pc [.ref (ad 99), .int x1] (PreW G sz (dO G ad d_ad dw ++ []))) (Don G (va_A (dO G ad d_ad dw ++ []) sz) (dO G ad out dw ++ [])) 0 0 (va_A (dO G ad d_ad dw ++ []) sz) := by
  refine Met.into (by decide) (Nat.le_of_ble_eq_true rfl) ?_
  intro p e s m below meth c C hsz ls hl hw
  have hl : lv_has ls 2 [(0, .ref (ad 99)), (1, .int x1)] := hl
  clear hsz
  generalize va_A (dO G ad d_ad dw ++ []) sz = A at hw ⊢
  have hB_19 : ∀ (d_ad : Pic), b_X9_dropsOne_19 x1  d_ad = some out → ∀ (H : Heap) (locs : List Loc), Wd G A s H locs (dO G ad d_ad dw ++ []) → ∀ ls : Array Slot, lv_has ls 2 [(0, .ref (ad 99)), (1, .int x1)] → W p l e ({ frames := 3, cells := 0, slots := 0, locals := 66 }) s m [.ref (ad 99), .int x1].toArray below meth c H locs 0 0 (MQ below (Don G A (dO G ad out dw ++ [])) [.ref (ad 99), .int x1].toArray s 0 0 A) (F0 m 19 ls []) := by
    intro d_ad hf H locs hw ls hl
    unfold b_X9_dropsOne_19 at hf
    refine r_aload0 C hl 0 rfl dX9_dropsOne_19 ?_
    refine r_get C hw _ (gx_h dO_o) 20 fl_X9_35 rfl dX9_dropsOne_20 ?_
    refine lv_sipush (v := 165) C.1 C.2.1 dX9_dropsOne_23 (by decide) ?_
    refine r_iload0 C hl 1 rfl dX9_dropsOne_26 ?_
    refine lv_iadd C.1 C.2.1 dX9_dropsOne_27 ?_
    refine lv_iconst (v := 0) C.1 C.2.1 dX9_dropsOne_28 (by decide) ?_
    obtain ⟨d_ad2, e2, hf⟩ := bx hf
    refine r_iast C hw _ (gx_h dO_g20) e2 (dO G ad d_ad2 dw ++ []) (fun h => (sx_h dO_g20 (dO_s20 h))) dX9_dropsOne_29 (fun H locs hw => ?_)
    refine r_aload0 C hl 0 rfl dX9_dropsOne_30 ?_
    refine r_get C hw _ (gx_h dO_o) 20 fl_X9_35 rfl dX9_dropsOne_31 ?_
    refine lv_sipush (v := 1204) C.1 C.2.1 dX9_dropsOne_34 (by decide) ?_
    refine r_iload0 C hl 1 rfl dX9_dropsOne_37 ?_
    refine lv_iadd C.1 C.2.1 dX9_dropsOne_38 ?_
    refine lv_iconst (v := 0) C.1 C.2.1 dX9_dropsOne_39 (by decide) ?_
    obtain ⟨d_ad3, e3, hf⟩ := bx hf
    refine r_iast C hw _ (gx_h dO_g20) e3 (dO G ad d_ad3 dw ++ []) (fun h => (sx_h dO_g20 (dO_s20 h))) dX9_dropsOne_40 (fun H locs hw => ?_)
    exact fin_v C hw (Option.some.inj hf) (fun o => (dO G ad o dw ++ [])) rfl dX9_dropsOne_41
  unfold f_X9_dropsOne at hf
  refine r_aload0 C hl 0 rfl dX9_dropsOne_0 ?_
  refine r_iload0 C hl 1 rfl dX9_dropsOne_1 ?_
  obtain ⟨u1, e1, hf⟩ := bx hf
  refine r_callVi (ws' := (dO G ad d_ad dw ++ [])) (As := [.int x1]) (rest := []) C hw hl.1 kX9_placeOf ml_X9_325 (c_X9_placeOf l G ad _ d_ad dw x1 u1 e1) (CutX.take dO_f CutX.none) _ (gx_h dO_o) rfl ⟨rfl, rfl⟩ ⟨Nat.le_of_ble_eq_true rfl, Nat.le_of_ble_eq_true rfl⟩ rfl ⟨Nat.zero_le _, Nat.zero_le _⟩ rfl (Nat.le_of_ble_eq_true rfl) dX9_dropsOne_2 (fun H locs hw => ?_)
  refine lv_iconst (v := 2) C.1 C.2.1 dX9_dropsOne_5 (by decide) ?_
  refine lv_icmp_ne (tgt := 19) C.1 C.2.1 dX9_dropsOne_6 (by decide) (fun hc => ?_) (fun hc => ?_)
  · replace hf := ifn hf hc
    exact hB_19  d_ad hf _ _ hw _ (lv_sub hl [0, 1] rfl)
  · replace hf := ifp hf hc
    refine r_aload0 C hl 0 rfl dX9_dropsOne_9 ?_
    refine r_iload0 C hl 1 rfl dX9_dropsOne_10 ?_
    obtain ⟨u4, e4, hf⟩ := bx hf
    refine r_callVv (ws' := (dO G ad u4 dw ++ [])) (As := [.int x1]) (rest := []) C hw hl.1 kX9_leaves ml_X9_328 (c_X9_leaves l G ad _ d_ad dw x1 u4 e4) (CutX.take dO_f CutX.none) _ (gx_h dO_o) rfl ⟨rfl, rfl⟩ ⟨Nat.le_of_ble_eq_true rfl, Nat.le_of_ble_eq_true rfl⟩ rfl ⟨Nat.zero_le _, Nat.zero_le _⟩ rfl (Nat.le_of_ble_eq_true rfl) dX9_dropsOne_11 (fun H locs hw => ?_)
    refine r_aload0 C hl 0 rfl dX9_dropsOne_14 ?_
    refine r_iload0 C hl 1 rfl dX9_dropsOne_15 ?_
    obtain ⟨u5, e5, hf⟩ := bx hf
    refine r_callVv (ws' := (dO G ad u5 dw ++ [])) (As := [.int x1]) (rest := []) C hw hl.1 kX9_forgets ml_X9_331 (c_X9_forgets l G ad _ u4 dw x1 u5 e5) (CutX.take dO_f CutX.none) _ (gx_h dO_o) rfl ⟨rfl, rfl⟩ ⟨Nat.le_of_ble_eq_true rfl, Nat.le_of_ble_eq_true rfl⟩ rfl ⟨Nat.zero_le _, Nat.zero_le _⟩ rfl (Nat.le_of_ble_eq_true rfl) dX9_dropsOne_16 (fun H locs hw => ?_)
    exact hB_19  u5 hf _ _ hw _ (lv_sub hl [0, 1] rfl)
set_option maxHeartbeats 4000000 in
set_option maxRecDepth 100000 in
theorem c_X9_writes (l : Launch) (G : GG) (ad : Nat → Nat) (sz : Nat) (d_ad : Pic) (dw : Int64) (x1 : Int32) (out : Pic) (hf : f_X9_writes d_ad x1 = some out) : Met l yX9_writes (.code yX9_writes cX9_writes 2 none :: BT) ({ frames := 0, cells := 0, slots := 0, locals := 0 }) (va_Pc [.ref (ad 99), .int x1] (PreW G sz (dO G ad d_ad dw ++ []))) (Don G (va_A (dO G ad d_ad dw ++ []) sz) (dO G ad out dw ++ [])) 0 0 (va_A (dO G ad d_ad dw ++ []) sz) := by
  refine Met.into (by decide) (Nat.le_of_ble_eq_true rfl) ?_
  intro p e s m below meth c C hsz ls hl hw
  have hl : lv_has ls 2 [(0, .ref (ad 99)), (1, .int x1)] := hl
  clear hsz
  generalize va_A (dO G ad d_ad dw ++ []) sz = A at hw ⊢
  unfold f_X9_writes at hf
  refine r_aload0 C hl 0 rfl dX9_writes_0 ?_
  refine r_get C hw _ (gx_h dO_o) 20 fl_X9_35 rfl dX9_writes_1 ?_
  refine lv_sipush (v := 165) C.1 C.2.1 dX9_writes_4 (by decide) ?_
  refine r_iload0 C hl 1 rfl dX9_writes_7 ?_
  refine lv_iadd C.1 C.2.1 dX9_writes_8 ?_
  refine lv_iconst (v := 3) C.1 C.2.1 dX9_writes_9 (by decide) ?_
  obtain ⟨d_ad1, e1, hf⟩ := bx hf
  refine r_iast C hw _ (gx_h dO_g20) e1 (dO G ad d_ad1 dw ++ []) (fun h => (sx_h dO_g20 (dO_s20 h))) dX9_writes_10 (fun H locs hw => ?_)
  refine r_aload0 C hl 0 rfl dX9_writes_11 ?_
  refine r_get C hw _ (gx_h dO_o) 20 fl_X9_35 rfl dX9_writes_12 ?_
  refine lv_iconst (v := 1) C.1 C.2.1 dX9_writes_15 (by decide) ?_
  refine lv_dup2_11 C.1 C.2.1 dX9_writes_16 rfl rfl ?_
  obtain ⟨v2_, e2, hf⟩ := bx hf
  refine r_iald C hw _ (gx_h dO_g20) e2 dX9_writes_17 ?_
  refine lv_iconst (v := 1) C.1 C.2.1 dX9_writes_18 (by decide) ?_
  refine lv_iadd C.1 C.2.1 dX9_writes_19 ?_
  obtain ⟨d_ad3, e3, hf⟩ := bx hf
  refine r_iast C hw _ (gx_h dO_g20) e3 (dO G ad d_ad3 dw ++ []) (fun h => (sx_h dO_g20 (dO_s20 h))) dX9_writes_20 (fun H locs hw => ?_)
  exact fin_v C hw (Option.some.inj hf) (fun o => (dO G ad o dw ++ [])) rfl dX9_writes_21
set_option maxHeartbeats 4000000 in
set_option maxRecDepth 100000 in
theorem c_X9_isHeld (l : Launch) (G : GG) (ad : Nat → Nat) (sz : Nat) (d_ad : Pic) (dw : Int64) (x1 : Int32) (out : Int32) (hf : f_X9_isHeld d_ad x1 = some out) : Met l yX9_isHeld (.code yX9_isHeld cX9_isHeld 2 (some .boolean) :: BT) ({ frames := 0, cells := 0, slots := 0, locals := 0 }) (va_Pc [.ref (ad 99), .int x1] (PreW G sz (dO G ad d_ad dw ++ []))) (Ans G out (va_A (dO G ad d_ad dw ++ []) sz) (dO G ad d_ad dw ++ [])) 0 0 (va_A (dO G ad d_ad dw ++ []) sz) := by
  refine Met.into (by decide) (Nat.le_of_ble_eq_true rfl) ?_
  intro p e s m below meth c C hsz ls hl hw
  have hl : lv_has ls 2 [(0, .ref (ad 99)), (1, .int x1)] := hl
  clear hsz
  generalize va_A (dO G ad d_ad dw ++ []) sz = A at hw ⊢
  unfold f_X9_isHeld at hf
  refine r_aload0 C hl 0 rfl dX9_isHeld_0 ?_
  refine r_get C hw _ (gx_h dO_o) 20 fl_X9_35 rfl dX9_isHeld_1 ?_
  refine lv_sipush (v := 1204) C.1 C.2.1 dX9_isHeld_4 (by decide) ?_
  refine r_iload0 C hl 1 rfl dX9_isHeld_7 ?_
  refine lv_iadd C.1 C.2.1 dX9_isHeld_8 ?_
  obtain ⟨v1_, e1, hf⟩ := bx hf
  refine r_iald C hw _ (gx_h dO_g20) e1 dX9_isHeld_9 ?_
  refine lv_iconst (v := 1) C.1 C.2.1 dX9_isHeld_10 (by decide) ?_
  refine lv_icmp_ne (tgt := 18) C.1 C.2.1 dX9_isHeld_11 (by decide) (fun hc => ?_) (fun hc => ?_)
  · replace hf := ifn hf hc
    refine lv_iconst (v := 0) C.1 C.2.1 dX9_isHeld_18 (by decide) ?_
    exact fin_z C hw (by decide) (Option.some.inj hf) (fun o => o) (fun o => (dO G ad d_ad dw ++ [])) rfl rfl dX9_isHeld_19
  · replace hf := ifp hf hc
    refine lv_iconst (v := 1) C.1 C.2.1 dX9_isHeld_14 (by decide) ?_
    refine lv_goto (tgt := 19) C.1 C.2.1 dX9_isHeld_15 (by decide) ?_
    exact fin_z C hw (by decide) (Option.some.inj hf) (fun o => o) (fun o => (dO G ad d_ad dw ++ [])) rfl rfl dX9_isHeld_19
set_option maxHeartbeats 4000000 in
set_option maxRecDepth 100000 in
theorem c_X9_coldestFree (l : Launch) (G : GG) (ad : Nat → Nat) (sz : Nat) (d_ad : Pic) (dw : Int64)  (out : Int32) (hf : f_X9_coldestFree d_ad = some out) : Met l yX9_coldestFree (.code yX9_coldestFree cX9_coldestFree 2 (some .int) :: BT) ({ frames := 1, cells := 0, slots := 0, locals := 21 }) (va_Pc [.ref (ad 99)] (PreW G sz (dO G ad d_ad dw ++ []))) (Ans G out (va_A (dO G ad d_ad dw ++ []) sz) (dO G ad d_ad dw ++ [])) 0 0 (va_A (dO G ad d_ad dw ++ []) sz) := by
  refine Met.into (by decide) (Nat.le_of_ble_eq_true rfl) ?_
  intro p e s m below meth c C hsz ls hl hw
  have hl : lv_has ls 2 [(0, .ref (ad 99))] := hl
  clear hsz
  generalize va_A (dO G ad d_ad dw ++ []) sz = A at hw ⊢
  have hB_2 : ∀ (k2 : Int32 → Option (Int32)) (hk2 : ∀ (v1 : Int32), k2 v1 = some out → ∀ (H : Heap) (locs : List Loc), Wd G A s H locs (dO G ad d_ad dw ++ []) → ∀ ls : Array Slot, lv_has ls 2 [(0, .ref (ad 99)), (1, .int v1)] → W p l e ({ frames := 1, cells := 0, slots := 0, locals := 21 }) s m [.ref (ad 99)].toArray below meth c H locs 0 0 (MQ below (Ans G out A (dO G ad d_ad dw ++ [])) [.ref (ad 99)].toArray s 0 0 A) (F0 m 2 ls [])), ∀ (v1 : Int32), b_X9_coldestFree_2 d_ad k2 v1 = some out → ∀ (H : Heap) (locs : List Loc), Wd G A s H locs (dO G ad d_ad dw ++ []) → ∀ ls : Array Slot, lv_has ls 2 [(0, .ref (ad 99)), (1, .int v1)] → W p l e ({ frames := 1, cells := 0, slots := 0, locals := 21 }) s m [.ref (ad 99)].toArray below meth c H locs 0 0 (MQ below (Ans G out A (dO G ad d_ad dw ++ [])) [.ref (ad 99)].toArray s 0 0 A) (F0 m 2 ls []) := by
    intro k2 hk2 v1 hf H locs hw ls hl
    unfold b_X9_coldestFree_2 at hf
    refine r_iload0 C hl 1 rfl dX9_coldestFree_2 ?_
    refine r_aload0 C hl 0 rfl dX9_coldestFree_3 ?_
    refine r_get C hw _ (gx_h dO_o) 20 fl_X9_35 rfl dX9_coldestFree_4 ?_
    refine lv_sipush (v := 315) C.1 C.2.1 dX9_coldestFree_7 (by decide) ?_
    obtain ⟨v1_, e1, hf⟩ := bx hf
    refine r_iald C hw _ (gx_h dO_g20) e1 dX9_coldestFree_10 ?_
    refine lv_icmp_ge (tgt := 48) C.1 C.2.1 dX9_coldestFree_11 (by decide) (fun hc => ?_) (fun hc => ?_)
    · replace hf := ifp hf hc
      refine lv_iconst (v := (-1)) C.1 C.2.1 dX9_coldestFree_48 (by decide) ?_
      exact fin_i C hw (Option.some.inj hf) (fun o => o) (fun o => (dO G ad d_ad dw ++ [])) rfl rfl dX9_coldestFree_49
    · replace hf := ifn hf hc
      refine r_aload0 C hl 0 rfl dX9_coldestFree_14 ?_
      refine r_aload0 C hl 0 rfl dX9_coldestFree_15 ?_
      refine r_get C hw _ (gx_h dO_o) 20 fl_X9_35 rfl dX9_coldestFree_16 ?_
      refine lv_sipush (v := 285) C.1 C.2.1 dX9_coldestFree_19 (by decide) ?_
      refine r_iload0 C hl 1 rfl dX9_coldestFree_22 ?_
      refine lv_iadd C.1 C.2.1 dX9_coldestFree_23 ?_
      obtain ⟨v2_, e2, hf⟩ := bx hf
      refine r_iald C hw _ (gx_h dO_g20) e2 dX9_coldestFree_24 ?_
      obtain ⟨u3, e3, hf⟩ := bx hf
      refine r_callVi (ws' := (dO G ad d_ad dw ++ [])) (As := [.int v2_]) (rest := []) C hw hl.1 kX9_isHeld ml_X9_334 (c_X9_isHeld l G ad _ d_ad dw v2_ u3 e3) (CutX.take dO_f CutX.none) _ (gx_h dO_o) rfl ⟨rfl, rfl⟩ ⟨Nat.le_of_ble_eq_true rfl, Nat.le_of_ble_eq_true rfl⟩ rfl ⟨Nat.zero_le _, Nat.zero_le _⟩ rfl (Nat.le_of_ble_eq_true rfl) dX9_coldestFree_25 (fun H locs hw => ?_)
      refine lv_if_ne (tgt := 42) C.1 C.2.1 dX9_coldestFree_28 (by decide) (fun hc => ?_) (fun hc => ?_)
      · replace hf := ifn hf hc
        refine r_iinc C hl 1 (v1 + 1) [(1, .int (v1 + 1)), (0, .ref (ad 99))] rfl (iinc_e (by decide)) (by decide) rfl dX9_coldestFree_42 (fun ls hl => ?_)
        refine lv_goto (tgt := 2) C.1 C.2.1 dX9_coldestFree_45 (by decide) ?_
        exact hk2 (v1 + 1) hf _ _ hw _ (lv_sub hl [1, 0] rfl)
      · replace hf := ifp hf hc
        refine r_aload0 C hl 0 rfl dX9_coldestFree_31 ?_
        refine r_get C hw _ (gx_h dO_o) 20 fl_X9_35 rfl dX9_coldestFree_32 ?_
        refine lv_sipush (v := 285) C.1 C.2.1 dX9_coldestFree_35 (by decide) ?_
        refine r_iload0 C hl 1 rfl dX9_coldestFree_38 ?_
        refine lv_iadd C.1 C.2.1 dX9_coldestFree_39 ?_
        obtain ⟨v4_, e4, hf⟩ := bx hf
        refine r_iald C hw _ (gx_h dO_g20) e4 dX9_coldestFree_40 ?_
        exact fin_i C hw (Option.some.inj hf) (fun o => o) (fun o => (dO G ad d_ad dw ++ [])) rfl rfl dX9_coldestFree_41
  have hL_2 : ∀ n : Nat, ∀ (v1 : Int32), L_X9_coldestFree_2 d_ad  n v1 = some out → ∀ (H : Heap) (locs : List Loc), Wd G A s H locs (dO G ad d_ad dw ++ []) → ∀ ls : Array Slot, lv_has ls 2 [(0, .ref (ad 99)), (1, .int v1)] → W p l e ({ frames := 1, cells := 0, slots := 0, locals := 21 }) s m [.ref (ad 99)].toArray below meth c H locs 0 0 (MQ below (Ans G out A (dO G ad d_ad dw ++ [])) [.ref (ad 99)].toArray s 0 0 A) (F0 m 2 ls []) := by
    intro  n
    induction n with
    | zero => intro v1 hf; cases hf
    | succ n ih => exact hB_2 _ ih
  unfold f_X9_coldestFree at hf
  refine lv_iconst (v := 0) C.1 C.2.1 dX9_coldestFree_0 (by decide) ?_
  refine r_istore0 C hl [(1, .int 0), (0, .ref (ad 99))] (by decide) rfl dX9_coldestFree_1 (fun ls hl => ?_)
  exact hL_2  FU 0 hf _ _ hw _ (lv_sub hl [1, 0] rfl)
set_option maxHeartbeats 4000000 in
set_option maxRecDepth 100000 in
theorem c_X9_writesColdest (l : Launch) (G : GG) (ad : Nat → Nat) (sz : Nat) (d_ad : Pic) (dw : Int64)  (out : Int32 × Pic) (hf : f_X9_writesColdest d_ad = some out) : Met l yX9_writesColdest (.code yX9_writesColdest cX9_writesColdest 2 (some .int) :: BT) ({ frames := 3, cells := 0, slots := 0, locals := 66 }) (va_Pc [.ref (ad 99)] (PreW G sz (dO G ad d_ad dw ++ []))) (Ans G out.1 (va_A (dO G ad d_ad dw ++ []) sz) (dO G ad out.2 dw ++ [])) 0 0 (va_A (dO G ad d_ad dw ++ []) sz) := by
  refine Met.into (by decide) (Nat.le_of_ble_eq_true rfl) ?_
  intro p e s m below meth c C hsz ls hl hw
  have hl : lv_has ls 2 [(0, .ref (ad 99))] := hl
  clear hsz
  generalize va_A (dO G ad d_ad dw ++ []) sz = A at hw ⊢
  unfold f_X9_writesColdest at hf
  refine r_aload0 C hl 0 rfl dX9_writesColdest_0 ?_
  obtain ⟨u1, e1, hf⟩ := bx hf
  refine r_callVi (ws' := (dO G ad d_ad dw ++ [])) (As := []) (rest := []) C hw hl.1 kX9_coldestFree ml_X9_337 (c_X9_coldestFree l G ad _ d_ad dw u1 e1) (CutX.take dO_f CutX.none) _ (gx_h dO_o) rfl ⟨rfl, rfl⟩ ⟨Nat.le_of_ble_eq_true rfl, Nat.le_of_ble_eq_true rfl⟩ rfl ⟨Nat.zero_le _, Nat.zero_le _⟩ rfl (Nat.le_of_ble_eq_true rfl) dX9_writesColdest_1 (fun H locs hw => ?_)
  refine r_istore0 C hl [(1, .int u1), (0, .ref (ad 99))] (by decide) rfl dX9_writesColdest_4 (fun ls hl => ?_)
  refine r_aload0 C hl 1 rfl dX9_writesColdest_5 ?_
  refine r_iload0 C hl 0 rfl dX9_writesColdest_6 ?_
  obtain ⟨u2, e2, hf⟩ := bx hf
  refine r_callVv (ws' := (dO G ad u2 dw ++ [])) (As := [.int u1]) (rest := []) C hw hl.1 kX9_leaves ml_X9_328 (c_X9_leaves l G ad _ d_ad dw u1 u2 e2) (CutX.take dO_f CutX.none) _ (gx_h dO_o) rfl ⟨rfl, rfl⟩ ⟨Nat.le_of_ble_eq_true rfl, Nat.le_of_ble_eq_true rfl⟩ rfl ⟨Nat.zero_le _, Nat.zero_le _⟩ rfl (Nat.le_of_ble_eq_true rfl) dX9_writesColdest_7 (fun H locs hw => ?_)
  refine r_aload0 C hl 1 rfl dX9_writesColdest_10 ?_
  refine r_iload0 C hl 0 rfl dX9_writesColdest_11 ?_
  obtain ⟨u3, e3, hf⟩ := bx hf
  refine r_callVv (ws' := (dO G ad u3 dw ++ [])) (As := [.int u1]) (rest := []) C hw hl.1 kX9_forgets ml_X9_331 (c_X9_forgets l G ad _ u2 dw u1 u3 e3) (CutX.take dO_f CutX.none) _ (gx_h dO_o) rfl ⟨rfl, rfl⟩ ⟨Nat.le_of_ble_eq_true rfl, Nat.le_of_ble_eq_true rfl⟩ rfl ⟨Nat.zero_le _, Nat.zero_le _⟩ rfl (Nat.le_of_ble_eq_true rfl) dX9_writesColdest_12 (fun H locs hw => ?_)
  refine r_aload0 C hl 1 rfl dX9_writesColdest_15 ?_
  refine r_iload0 C hl 0 rfl dX9_writesColdest_16 ?_
  obtain ⟨u4, e4, hf⟩ := bx hf
  refine r_callVv (ws' := (dO G ad u4 dw ++ [])) (As := [.int u1]) (rest := []) C hw hl.1 kX9_writes ml_X9_340 (c_X9_writes l G ad _ u3 dw u1 u4 e4) (CutX.take dO_f CutX.none) _ (gx_h dO_o) rfl ⟨rfl, rfl⟩ ⟨Nat.le_of_ble_eq_true rfl, Nat.le_of_ble_eq_true rfl⟩ rfl ⟨Nat.zero_le _, Nat.zero_le _⟩ rfl (Nat.le_of_ble_eq_true rfl) dX9_writesColdest_17 (fun H locs hw => ?_)
  refine r_iload0 C hl 0 rfl dX9_writesColdest_20 ?_
  exact fin_i C hw (Option.some.inj hf) (fun o => o.1) (fun o => (dO G ad o.2 dw ++ [])) rfl rfl dX9_writesColdest_21
set_option maxHeartbeats 4000000 in
set_option maxRecDepth 100000 in
theorem c_X9_countsPushed (l : Launch) (G : GG) (ad : Nat → Nat) (sz : Nat) (d_ad : Pic) (dw : Int64) (x1 : Int32) (out : Pic) (hf : f_X9_countsPushed d_ad x1 = some out) : Met l yX9_countsPushed (.code yX9_countsPushed cX9_countsPushed 2 none :: BT) ({ frames := 0, cells := 0, slots := 0, locals := 0 }) (va_Pc [.ref (ad 99), .int x1] (PreW G sz (dO G ad d_ad dw ++ []))) (Don G (va_A (dO G ad d_ad dw ++ []) sz) (dO G ad out dw ++ [])) 0 0 (va_A (dO G ad d_ad dw ++ []) sz) := by
  refine Met.into (by decide) (Nat.le_of_ble_eq_true rfl) ?_
  intro p e s m below meth c C hsz ls hl hw
  have hl : lv_has ls 2 [(0, .ref (ad 99)), (1, .int x1)] := hl
  clear hsz
  generalize va_A (dO G ad d_ad dw ++ []) sz = A at hw ⊢
  unfold f_X9_countsPushed at hf
  refine r_aload0 C hl 0 rfl dX9_countsPushed_0 ?_
  refine r_get C hw _ (gx_h dO_o) 42 fl_X9_72 rfl dX9_countsPushed_1 ?_
  refine r_aload0 C hl 0 rfl dX9_countsPushed_4 ?_
  refine r_get C hw _ (gx_h dO_o) 43 fl_X9_343 rfl dX9_countsPushed_5 ?_
  refine r_iload0 C hl 1 rfl dX9_countsPushed_8 ?_
  obtain ⟨d_ad1, e1, hf⟩ := bx hf
  refine r_iast C hw _ (gx_h dO_g42) e1 (dO G ad d_ad1 dw ++ []) (fun h => (sx_h dO_g42 (dO_s42 h))) dX9_countsPushed_9 (fun H locs hw => ?_)
  refine r_aload0 C hl 0 rfl dX9_countsPushed_10 ?_
  refine lv_dup C.1 C.2.1 dX9_countsPushed_11 rfl ?_
  refine r_get C hw _ (gx_h dO_o) 43 fl_X9_343 rfl dX9_countsPushed_12 ?_
  refine lv_iconst (v := 1) C.1 C.2.1 dX9_countsPushed_15 (by decide) ?_
  refine lv_iadd C.1 C.2.1 dX9_countsPushed_16 ?_
  obtain ⟨d_ad2, e2, hf⟩ := bx hf
  refine r_put C hw _ (gx_h dO_o) 43 fp_X9_343 rfl rfl (Nat.le_of_ble_eq_true rfl) (dO G ad d_ad2 dw ++ []) (sx_h dO_o (dO_p43 e2)) dX9_countsPushed_17 (fun H locs hw => ?_)
  refine r_aload0 C hl 0 rfl dX9_countsPushed_20 ?_
  refine r_get C hw _ (gx_h dO_o) 20 fl_X9_35 rfl dX9_countsPushed_21 ?_
  refine lv_iconst (v := 2) C.1 C.2.1 dX9_countsPushed_24 (by decide) ?_
  refine lv_dup2_11 C.1 C.2.1 dX9_countsPushed_25 rfl rfl ?_
  obtain ⟨v3_, e3, hf⟩ := bx hf
  refine r_iald C hw _ (gx_h dO_g20) e3 dX9_countsPushed_26 ?_
  refine lv_iconst (v := 1) C.1 C.2.1 dX9_countsPushed_27 (by decide) ?_
  refine lv_iadd C.1 C.2.1 dX9_countsPushed_28 ?_
  obtain ⟨d_ad4, e4, hf⟩ := bx hf
  refine r_iast C hw _ (gx_h dO_g20) e4 (dO G ad d_ad4 dw ++ []) (fun h => (sx_h dO_g20 (dO_s20 h))) dX9_countsPushed_29 (fun H locs hw => ?_)
  exact fin_v C hw (Option.some.inj hf) (fun o => (dO G ad o dw ++ [])) rfl dX9_countsPushed_30
set_option maxHeartbeats 4000000 in
set_option maxRecDepth 100000 in
theorem c_X9_freeZone (l : Launch) (G : GG) (ad : Nat → Nat) (sz : Nat) (d_ad : Pic) (dw : Int64)  (out : Int32) (hf : f_X9_freeZone d_ad = some out) : Met l yX9_freeZone (.code yX9_freeZone cX9_freeZone 2 (some .int) :: BT) ({ frames := 1, cells := 0, slots := 0, locals := 21 }) (va_Pc [.ref (ad 99)] (PreW G sz (dO G ad d_ad dw ++ []))) (Ans G out (va_A (dO G ad d_ad dw ++ []) sz) (dO G ad d_ad dw ++ [])) 0 0 (va_A (dO G ad d_ad dw ++ []) sz) := by
  refine Met.into (by decide) (Nat.le_of_ble_eq_true rfl) ?_
  intro p e s m below meth c C hsz ls hl hw
  have hl : lv_has ls 2 [(0, .ref (ad 99))] := hl
  clear hsz
  generalize va_A (dO G ad d_ad dw ++ []) sz = A at hw ⊢
  have hB_2 : ∀ (k2 : Int32 → Option (Int32)) (hk2 : ∀ (v1 : Int32), k2 v1 = some out → ∀ (H : Heap) (locs : List Loc), Wd G A s H locs (dO G ad d_ad dw ++ []) → ∀ ls : Array Slot, lv_has ls 2 [(0, .ref (ad 99)), (1, .int v1)] → W p l e ({ frames := 1, cells := 0, slots := 0, locals := 21 }) s m [.ref (ad 99)].toArray below meth c H locs 0 0 (MQ below (Ans G out A (dO G ad d_ad dw ++ [])) [.ref (ad 99)].toArray s 0 0 A) (F0 m 2 ls [])), ∀ (v1 : Int32), b_X9_freeZone_2 d_ad k2 v1 = some out → ∀ (H : Heap) (locs : List Loc), Wd G A s H locs (dO G ad d_ad dw ++ []) → ∀ ls : Array Slot, lv_has ls 2 [(0, .ref (ad 99)), (1, .int v1)] → W p l e ({ frames := 1, cells := 0, slots := 0, locals := 21 }) s m [.ref (ad 99)].toArray below meth c H locs 0 0 (MQ below (Ans G out A (dO G ad d_ad dw ++ [])) [.ref (ad 99)].toArray s 0 0 A) (F0 m 2 ls []) := by
    intro k2 hk2 v1 hf H locs hw ls hl
    unfold b_X9_freeZone_2 at hf
    refine r_aload0 C hl 0 rfl dX9_freeZone_2 ?_
    refine r_iload0 C hl 1 rfl dX9_freeZone_3 ?_
    obtain ⟨u1, e1, hf⟩ := bx hf
    refine r_callVi (ws' := (dO G ad d_ad dw ++ [])) (As := [.int v1]) (rest := []) C hw hl.1 kX9_classOf ml_X9_310 (c_X9_classOf l G ad _ d_ad dw v1 u1 e1) (CutX.take dO_f CutX.none) _ (gx_h dO_o) rfl ⟨rfl, rfl⟩ ⟨Nat.le_of_ble_eq_true rfl, Nat.le_of_ble_eq_true rfl⟩ rfl ⟨Nat.zero_le _, Nat.zero_le _⟩ rfl (Nat.le_of_ble_eq_true rfl) dX9_freeZone_4 (fun H locs hw => ?_)
    refine lv_if_le (tgt := 16) C.1 C.2.1 dX9_freeZone_7 (by decide) (fun hc => ?_) (fun hc => ?_)
    · replace hf := ifp hf hc
      refine r_iload0 C hl 1 rfl dX9_freeZone_16 ?_
      exact fin_i C hw (Option.some.inj hf) (fun o => o) (fun o => (dO G ad d_ad dw ++ [])) rfl rfl dX9_freeZone_17
    · replace hf := ifn hf hc
      refine r_iinc C hl 1 (v1 + 1) [(1, .int (v1 + 1)), (0, .ref (ad 99))] rfl (iinc_e (by decide)) (by decide) rfl dX9_freeZone_10 (fun ls hl => ?_)
      refine lv_goto (tgt := 2) C.1 C.2.1 dX9_freeZone_13 (by decide) ?_
      exact hk2 (v1 + 1) hf _ _ hw _ (lv_sub hl [1, 0] rfl)
  have hL_2 : ∀ n : Nat, ∀ (v1 : Int32), L_X9_freeZone_2 d_ad  n v1 = some out → ∀ (H : Heap) (locs : List Loc), Wd G A s H locs (dO G ad d_ad dw ++ []) → ∀ ls : Array Slot, lv_has ls 2 [(0, .ref (ad 99)), (1, .int v1)] → W p l e ({ frames := 1, cells := 0, slots := 0, locals := 21 }) s m [.ref (ad 99)].toArray below meth c H locs 0 0 (MQ below (Ans G out A (dO G ad d_ad dw ++ [])) [.ref (ad 99)].toArray s 0 0 A) (F0 m 2 ls []) := by
    intro  n
    induction n with
    | zero => intro v1 hf; cases hf
    | succ n ih => exact hB_2 _ ih
  unfold f_X9_freeZone at hf
  refine lv_iconst (v := 0) C.1 C.2.1 dX9_freeZone_0 (by decide) ?_
  refine r_istore0 C hl [(1, .int 0), (0, .ref (ad 99))] (by decide) rfl dX9_freeZone_1 (fun ls hl => ?_)
  exact hL_2  FU 0 hf _ _ hw _ (lv_sub hl [1, 0] rfl)
set_option maxHeartbeats 4000000 in
set_option maxRecDepth 100000 in
theorem c_X9_findsRoom (l : Launch) (G : GG) (ad : Nat → Nat) (sz : Nat) (d_ad : Pic) (dw : Int64) (x1 : Int32) (out : Pic) (hf : f_X9_findsRoom d_ad x1 = some out) : Met l yX9_findsRoom (.code yX9_findsRoom cX9_findsRoom 4 none :: BT) ({ frames := 4, cells := 0, slots := 0, locals := 89 }) (va_Pc [.ref (ad 99), .int x1] (PreW G sz (dO G ad d_ad dw ++ []))) (Don G (va_A (dO G ad d_ad dw ++ []) sz) (dO G ad out dw ++ [])) 0 0 (va_A (dO G ad d_ad dw ++ []) sz) := by
  refine Met.into (by decide) (Nat.le_of_ble_eq_true rfl) ?_
  intro p e s m below meth c C hsz ls hl hw
  have hl : lv_has ls 4 [(0, .ref (ad 99)), (1, .int x1)] := hl
  clear hsz
  generalize va_A (dO G ad d_ad dw ++ []) sz = A at hw ⊢
  have hB_18 : ∀ (k18 : Pic → Int32 → Option (Pic)) (hk18 : ∀ (d_ad : Pic) (v2 : Int32), k18 d_ad v2 = some out → ∀ (H : Heap) (locs : List Loc), Wd G A s H locs (dO G ad d_ad dw ++ []) → ∀ ls : Array Slot, lv_has ls 4 [(0, .ref (ad 99)), (1, .int x1), (2, .int v2)] → W p l e ({ frames := 4, cells := 0, slots := 0, locals := 89 }) s m [.ref (ad 99), .int x1].toArray below meth c H locs 0 0 (MQ below (Don G A (dO G ad out dw ++ [])) [.ref (ad 99), .int x1].toArray s 0 0 A) (F0 m 18 ls [])), ∀ (d_ad : Pic) (v2 : Int32), b_X9_findsRoom_18 x1 k18 d_ad v2 = some out → ∀ (H : Heap) (locs : List Loc), Wd G A s H locs (dO G ad d_ad dw ++ []) → ∀ ls : Array Slot, lv_has ls 4 [(0, .ref (ad 99)), (1, .int x1), (2, .int v2)] → W p l e ({ frames := 4, cells := 0, slots := 0, locals := 89 }) s m [.ref (ad 99), .int x1].toArray below meth c H locs 0 0 (MQ below (Don G A (dO G ad out dw ++ [])) [.ref (ad 99), .int x1].toArray s 0 0 A) (F0 m 18 ls []) := by
    intro k18 hk18 d_ad v2 hf H locs hw ls hl
    unfold b_X9_findsRoom_18 at hf
    refine r_aload0 C hl 0 rfl dX9_findsRoom_18 ?_
    refine r_iload0 C hl 2 rfl dX9_findsRoom_19 ?_
    refine lv_iconst (v := (-1)) C.1 C.2.1 dX9_findsRoom_20 (by decide) ?_
    obtain ⟨u3, e3, hf⟩ := bx hf
    refine r_callVi (ws' := (dO G ad d_ad dw ++ [])) (As := [.int v2, .int (-1)]) (rest := []) C hw hl.1 kX9_fullestOf ml_X9_346 (c_X9_fullestOf l G ad _ d_ad dw v2 (-1) u3 e3) (CutX.take dO_f CutX.none) _ (gx_h dO_o) rfl ⟨rfl, rfl⟩ ⟨Nat.le_of_ble_eq_true rfl, Nat.le_of_ble_eq_true rfl⟩ rfl ⟨Nat.zero_le _, Nat.zero_le _⟩ rfl (Nat.le_of_ble_eq_true rfl) dX9_findsRoom_21 (fun H locs hw => ?_)
    refine r_istore0 C hl [(3, .int u3), (0, .ref (ad 99)), (1, .int x1), (2, .int v2)] (by decide) rfl dX9_findsRoom_24 (fun ls hl => ?_)
    refine r_iload0 C hl 0 rfl dX9_findsRoom_25 ?_
    refine lv_iconst (v := (-1)) C.1 C.2.1 dX9_findsRoom_26 (by decide) ?_
    refine lv_icmp_eq (tgt := 42) C.1 C.2.1 dX9_findsRoom_27 (by decide) (fun hc => ?_) (fun hc => ?_)
    · replace hf := ifp hf hc
      refine r_aload0 C hl 1 rfl dX9_findsRoom_42 ?_
      obtain ⟨u4, e4, hf⟩ := bx hf
      refine r_callVi (ws' := (dO G ad d_ad dw ++ [])) (As := []) (rest := []) C hw hl.1 kX9_framesNow ml_X9_356 (c_X9_framesNow l G ad _ d_ad dw u4 e4) (CutX.take dO_f CutX.none) _ (gx_h dO_o) rfl ⟨rfl, rfl⟩ ⟨Nat.le_of_ble_eq_true rfl, Nat.le_of_ble_eq_true rfl⟩ rfl ⟨Nat.zero_le _, Nat.zero_le _⟩ rfl (Nat.le_of_ble_eq_true rfl) dX9_findsRoom_43 (fun H locs hw => ?_)
      refine r_iload0 C hl 3 rfl dX9_findsRoom_46 ?_
      obtain ⟨u5, e5, hf⟩ := bx hf
      refine r_callSi (ws' := (dO G ad d_ad dw ++ [])) (As := [.int v2]) (rest := [.int u4]) C hw hl.1 kX9_framesOf ml_X9_286 (c_X9_framesOf l G _ v2 u5 e5) CutX.none ⟨rfl, rfl⟩ ⟨Nat.le_of_ble_eq_true rfl, Nat.le_of_ble_eq_true rfl⟩ rfl ⟨Nat.zero_le _, Nat.zero_le _⟩ rfl (Nat.le_of_ble_eq_true rfl) dX9_findsRoom_47 (fun H locs hw => ?_)
      refine lv_iadd C.1 C.2.1 dX9_findsRoom_50 ?_
      refine r_aload0 C hl 1 rfl dX9_findsRoom_51 ?_
      refine r_get C hw _ (gx_h dO_o) 20 fl_X9_35 rfl dX9_findsRoom_52 ?_
      refine lv_iconst (v := 0) C.1 C.2.1 dX9_findsRoom_55 (by decide) ?_
      obtain ⟨v6_, e6, hf⟩ := bx hf
      refine r_iald C hw _ (gx_h dO_g20) e6 dX9_findsRoom_56 ?_
      refine lv_icmp_gt (tgt := 77) C.1 C.2.1 dX9_findsRoom_57 (by decide) (fun hc => ?_) (fun hc => ?_)
      · replace hf := ifp hf hc
        refine r_aload0 C hl 1 rfl dX9_findsRoom_77 ?_
        obtain ⟨u7, e7, hf⟩ := bx hf
        refine r_callVi (ws' := (dO G ad d_ad dw ++ [])) (As := []) (rest := []) C hw hl.1 kX9_coldestFree ml_X9_337 (c_X9_coldestFree l G ad _ d_ad dw u7 e7) (CutX.take dO_f CutX.none) _ (gx_h dO_o) rfl ⟨rfl, rfl⟩ ⟨Nat.le_of_ble_eq_true rfl, Nat.le_of_ble_eq_true rfl⟩ rfl ⟨Nat.zero_le _, Nat.zero_le _⟩ rfl (Nat.le_of_ble_eq_true rfl) dX9_findsRoom_78 (fun H locs hw => ?_)
        refine lv_iconst (v := (-1)) C.1 C.2.1 dX9_findsRoom_81 (by decide) ?_
        refine lv_icmp_eq (tgt := 96) C.1 C.2.1 dX9_findsRoom_82 (by decide) (fun hc => ?_) (fun hc => ?_)
        · replace hf := ifp hf hc
          refine r_aload0 C hl 1 rfl dX9_findsRoom_96 ?_
          refine r_iload0 C hl 2 rfl dX9_findsRoom_97 ?_
          obtain ⟨u8, e8, hf⟩ := bx hf
          refine r_callVv (ws' := (dO G ad u8 dw ++ [])) (As := [.int x1]) (rest := []) C hw hl.1 kX9_writes ml_X9_340 (c_X9_writes l G ad _ d_ad dw x1 u8 e8) (CutX.take dO_f CutX.none) _ (gx_h dO_o) rfl ⟨rfl, rfl⟩ ⟨Nat.le_of_ble_eq_true rfl, Nat.le_of_ble_eq_true rfl⟩ rfl ⟨Nat.zero_le _, Nat.zero_le _⟩ rfl (Nat.le_of_ble_eq_true rfl) dX9_findsRoom_98 (fun H locs hw => ?_)
          refine r_aload0 C hl 1 rfl dX9_findsRoom_101 ?_
          refine r_iload0 C hl 2 rfl dX9_findsRoom_102 ?_
          obtain ⟨u9, e9, hf⟩ := bx hf
          refine r_callVv (ws' := (dO G ad u9 dw ++ [])) (As := [.int x1]) (rest := []) C hw hl.1 kX9_countsPushed ml_X9_365 (c_X9_countsPushed l G ad _ u8 dw x1 u9 e9) (CutX.take dO_f CutX.none) _ (gx_h dO_o) rfl ⟨rfl, rfl⟩ ⟨Nat.le_of_ble_eq_true rfl, Nat.le_of_ble_eq_true rfl⟩ rfl ⟨Nat.zero_le _, Nat.zero_le _⟩ rfl (Nat.le_of_ble_eq_true rfl) dX9_findsRoom_103 (fun H locs hw => ?_)
          exact fin_v C hw (Option.some.inj hf) (fun o => (dO G ad o dw ++ [])) rfl dX9_findsRoom_106
        · replace hf := ifn hf hc
          refine r_aload0 C hl 1 rfl dX9_findsRoom_85 ?_
          refine r_aload0 C hl 1 rfl dX9_findsRoom_86 ?_
          obtain ⟨u10, e10, hf⟩ := bx hf
          refine r_callVi (ws' := (dO G ad u10.2 dw ++ [])) (As := []) (rest := [.ref (ad 99)]) C hw hl.1 kX9_writesColdest ml_X9_362 (c_X9_writesColdest l G ad _ d_ad dw u10 e10) (CutX.take dO_f CutX.none) _ (gx_h dO_o) rfl ⟨rfl, rfl⟩ ⟨Nat.le_of_ble_eq_true rfl, Nat.le_of_ble_eq_true rfl⟩ rfl ⟨Nat.zero_le _, Nat.zero_le _⟩ rfl (Nat.le_of_ble_eq_true rfl) dX9_findsRoom_87 (fun H locs hw => ?_)
          obtain ⟨u11, e11, hf⟩ := bx hf
          refine r_callVv (ws' := (dO G ad u11 dw ++ [])) (As := [.int u10.1]) (rest := []) C hw hl.1 kX9_countsPushed ml_X9_365 (c_X9_countsPushed l G ad _ u10.2 dw u10.1 u11 e11) (CutX.take dO_f CutX.none) _ (gx_h dO_o) rfl ⟨rfl, rfl⟩ ⟨Nat.le_of_ble_eq_true rfl, Nat.le_of_ble_eq_true rfl⟩ rfl ⟨Nat.zero_le _, Nat.zero_le _⟩ rfl (Nat.le_of_ble_eq_true rfl) dX9_findsRoom_90 (fun H locs hw => ?_)
          refine lv_goto (tgt := 107) C.1 C.2.1 dX9_findsRoom_93 (by decide) ?_
          refine lv_goto (tgt := 18) C.1 C.2.1 dX9_findsRoom_107 (by decide) ?_
          exact hk18 u11 v2 hf _ _ hw _ (lv_sub hl [1, 2, 3] rfl)
      · replace hf := ifn hf hc
        refine r_aload0 C hl 1 rfl dX9_findsRoom_60 ?_
        refine r_get C hw _ (gx_h dO_o) 20 fl_X9_35 rfl dX9_findsRoom_61 ?_
        refine lv_sipush (v := 796) C.1 C.2.1 dX9_findsRoom_64 (by decide) ?_
        refine r_aload0 C hl 1 rfl dX9_findsRoom_67 ?_
        obtain ⟨u12, e12, hf⟩ := bx hf
        refine r_callVi (ws' := (dO G ad d_ad dw ++ [])) (As := []) (rest := [.int 796, .ref (ad 20)]) C hw hl.1 kX9_freeZone ml_X9_359 (c_X9_freeZone l G ad _ d_ad dw u12 e12) (CutX.take dO_f CutX.none) _ (gx_h dO_o) rfl ⟨rfl, rfl⟩ ⟨Nat.le_of_ble_eq_true rfl, Nat.le_of_ble_eq_true rfl⟩ rfl ⟨Nat.zero_le _, Nat.zero_le _⟩ rfl (Nat.le_of_ble_eq_true rfl) dX9_findsRoom_68 (fun H locs hw => ?_)
        refine lv_iadd C.1 C.2.1 dX9_findsRoom_71 ?_
        refine r_iload0 C hl 3 rfl dX9_findsRoom_72 ?_
        obtain ⟨d_ad13, e13, hf⟩ := bx hf
        refine r_iast C hw _ (gx_h dO_g20) e13 (dO G ad d_ad13 dw ++ []) (fun h => (sx_h dO_g20 (dO_s20 h))) dX9_findsRoom_73 (fun H locs hw => ?_)
        refine lv_goto (tgt := 107) C.1 C.2.1 dX9_findsRoom_74 (by decide) ?_
        refine lv_goto (tgt := 18) C.1 C.2.1 dX9_findsRoom_107 (by decide) ?_
        exact hk18 d_ad13 v2 hf _ _ hw _ (lv_sub hl [1, 2, 3] rfl)
    · replace hf := ifn hf hc
      refine r_aload0 C hl 1 rfl dX9_findsRoom_30 ?_
      refine r_iload0 C hl 2 rfl dX9_findsRoom_31 ?_
      refine r_iload0 C hl 0 rfl dX9_findsRoom_32 ?_
      obtain ⟨u14, e14, hf⟩ := bx hf
      refine r_callVv (ws' := (dO G ad u14 dw ++ [])) (As := [.int x1, .int u3]) (rest := []) C hw hl.1 kX9_comesInto ml_X9_349 (c_X9_comesInto l G ad _ d_ad dw x1 u3 u14 e14) (CutX.take dO_f CutX.none) _ (gx_h dO_o) rfl ⟨rfl, rfl⟩ ⟨Nat.le_of_ble_eq_true rfl, Nat.le_of_ble_eq_true rfl⟩ rfl ⟨Nat.zero_le _, Nat.zero_le _⟩ rfl (Nat.le_of_ble_eq_true rfl) dX9_findsRoom_33 (fun H locs hw => ?_)
      refine r_aload0 C hl 1 rfl dX9_findsRoom_36 ?_
      refine r_iload0 C hl 2 rfl dX9_findsRoom_37 ?_
      obtain ⟨u15, e15, hf⟩ := bx hf
      refine r_callVv (ws' := (dO G ad u15 dw ++ [])) (As := [.int x1]) (rest := []) C hw hl.1 kX9_growsOld ml_X9_353 (c_X9_growsOld l G ad _ u14 dw x1 u15 e15) (CutX.take dO_f CutX.none) _ (gx_h dO_o) rfl ⟨rfl, rfl⟩ ⟨Nat.le_of_ble_eq_true rfl, Nat.le_of_ble_eq_true rfl⟩ rfl ⟨Nat.zero_le _, Nat.zero_le _⟩ rfl (Nat.le_of_ble_eq_true rfl) dX9_findsRoom_38 (fun H locs hw => ?_)
      exact fin_v C hw (Option.some.inj hf) (fun o => (dO G ad o dw ++ [])) rfl dX9_findsRoom_41
  have hL_18 : ∀ n : Nat, ∀ (d_ad : Pic) (v2 : Int32), L_X9_findsRoom_18 x1  n d_ad v2 = some out → ∀ (H : Heap) (locs : List Loc), Wd G A s H locs (dO G ad d_ad dw ++ []) → ∀ ls : Array Slot, lv_has ls 4 [(0, .ref (ad 99)), (1, .int x1), (2, .int v2)] → W p l e ({ frames := 4, cells := 0, slots := 0, locals := 89 }) s m [.ref (ad 99), .int x1].toArray below meth c H locs 0 0 (MQ below (Don G A (dO G ad out dw ++ [])) [.ref (ad 99), .int x1].toArray s 0 0 A) (F0 m 18 ls []) := by
    intro  n
    induction n with
    | zero => intro d_ad v2 hf; cases hf
    | succ n ih => exact hB_18 _ ih
  unfold f_X9_findsRoom at hf
  refine r_aload0 C hl 0 rfl dX9_findsRoom_0 ?_
  refine r_get C hw _ (gx_h dO_o) 20 fl_X9_35 rfl dX9_findsRoom_1 ?_
  refine lv_sipush (v := 195) C.1 C.2.1 dX9_findsRoom_4 (by decide) ?_
  refine r_iload0 C hl 1 rfl dX9_findsRoom_7 ?_
  refine lv_iadd C.1 C.2.1 dX9_findsRoom_8 ?_
  obtain ⟨v1_, e1, hf⟩ := bx hf
  refine r_iald C hw _ (gx_h dO_g20) e1 dX9_findsRoom_9 ?_
  refine r_aload0 C hl 0 rfl dX9_findsRoom_10 ?_
  refine r_get C hw _ (gx_h dO_o) 3 fl_X9_229 rfl dX9_findsRoom_11 ?_
  obtain ⟨u2, e2, hf⟩ := bx hf
  refine r_callSi (ws' := (dO G ad d_ad dw ++ [])) (As := [.int v1_, .int (gS d_ad 3)]) (rest := []) C hw hl.1 kX9_homeOf ml_X9_289 (c_X9_homeOf l G _ v1_ (gS d_ad 3) u2 e2) CutX.none ⟨rfl, rfl⟩ ⟨Nat.le_of_ble_eq_true rfl, Nat.le_of_ble_eq_true rfl⟩ rfl ⟨Nat.zero_le _, Nat.zero_le _⟩ rfl (Nat.le_of_ble_eq_true rfl) dX9_findsRoom_14 (fun H locs hw => ?_)
  refine r_istore0 C hl [(2, .int u2), (0, .ref (ad 99)), (1, .int x1)] (by decide) rfl dX9_findsRoom_17 (fun ls hl => ?_)
  exact hL_18  FU d_ad u2 hf _ _ hw _ (lv_sub hl [1, 2, 0] rfl)
set_option maxHeartbeats 4000000 in
set_option maxRecDepth 100000 in
theorem c_X9_stores (l : Launch) (G : GG) (ad : Nat → Nat) (sz : Nat) (d_ad : Pic) (dw : Int64) (x1 : Int32) (x2 : Int32) (out : Int32 × Pic) (hf : f_X9_stores d_ad x1 x2 = some out) : Met l yX9_stores (.code yX9_stores cX9_stores 4 (some .int) :: BT) ({ frames := 5, cells := 0, slots := 0, locals := 112 }) (va_Pc [.ref (ad 99), .int x1, .int x2] (PreW G sz (dO G ad d_ad dw ++ []))) (Ans G out.1 (va_A (dO G ad d_ad dw ++ []) sz) (dO G ad out.2 dw ++ [])) 0 0 (va_A (dO G ad d_ad dw ++ []) sz) := by
  refine Met.into (by decide) (Nat.le_of_ble_eq_true rfl) ?_
  intro p e s m below meth c C hsz ls hl hw
  have hl : lv_has ls 4 [(0, .ref (ad 99)), (1, .int x1), (2, .int x2)] := hl
  clear hsz
  generalize va_A (dO G ad d_ad dw ++ []) sz = A at hw ⊢
  have hB_122 : ∀ (d_ad : Pic), b_X9_stores_122 x1 x2  d_ad = some out → ∀ (H : Heap) (locs : List Loc), Wd G A s H locs (dO G ad d_ad dw ++ []) → ∀ ls : Array Slot, lv_has ls 4 [(0, .ref (ad 99)), (1, .int x1)] → W p l e ({ frames := 5, cells := 0, slots := 0, locals := 112 }) s m [.ref (ad 99), .int x1, .int x2].toArray below meth c H locs 0 0 (MQ below (Ans G out.1 A (dO G ad out.2 dw ++ [])) [.ref (ad 99), .int x1, .int x2].toArray s 0 0 A) (F0 m 122 ls []) := by
    intro d_ad hf H locs hw ls hl
    unfold b_X9_stores_122 at hf
    refine r_aload0 C hl 0 rfl dX9_stores_122 ?_
    refine r_iload0 C hl 1 rfl dX9_stores_123 ?_
    obtain ⟨u10, e10, hf⟩ := bx hf
    refine r_callVi (ws' := (dO G ad d_ad dw ++ [])) (As := [.int x1]) (rest := []) C hw hl.1 kX9_placeOf ml_X9_325 (c_X9_placeOf l G ad _ d_ad dw x1 u10 e10) (CutX.take dO_f CutX.none) _ (gx_h dO_o) rfl ⟨rfl, rfl⟩ ⟨Nat.le_of_ble_eq_true rfl, Nat.le_of_ble_eq_true rfl⟩ rfl ⟨Nat.zero_le _, Nat.zero_le _⟩ rfl (Nat.le_of_ble_eq_true rfl) dX9_stores_124 (fun H locs hw => ?_)
    exact fin_i C hw (Option.some.inj hf) (fun o => o.1) (fun o => (dO G ad o.2 dw ++ [])) rfl rfl dX9_stores_127
  have hB_12 : ∀ (k12 : Pic → Int32 → Option (Int32 × Pic)) (hk12 : ∀ (d_ad : Pic) (v3 : Int32), k12 d_ad v3 = some out → ∀ (H : Heap) (locs : List Loc), Wd G A s H locs (dO G ad d_ad dw ++ []) → ∀ ls : Array Slot, lv_has ls 4 [(0, .ref (ad 99)), (1, .int x1), (2, .int x2), (3, .int v3)] → W p l e ({ frames := 5, cells := 0, slots := 0, locals := 112 }) s m [.ref (ad 99), .int x1, .int x2].toArray below meth c H locs 0 0 (MQ below (Ans G out.1 A (dO G ad out.2 dw ++ [])) [.ref (ad 99), .int x1, .int x2].toArray s 0 0 A) (F0 m 12 ls [])), ∀ (d_ad : Pic) (v3 : Int32), b_X9_stores_12 x1 x2 k12 d_ad v3 = some out → ∀ (H : Heap) (locs : List Loc), Wd G A s H locs (dO G ad d_ad dw ++ []) → ∀ ls : Array Slot, lv_has ls 4 [(0, .ref (ad 99)), (1, .int x1), (2, .int x2), (3, .int v3)] → W p l e ({ frames := 5, cells := 0, slots := 0, locals := 112 }) s m [.ref (ad 99), .int x1, .int x2].toArray below meth c H locs 0 0 (MQ below (Ans G out.1 A (dO G ad out.2 dw ++ [])) [.ref (ad 99), .int x1, .int x2].toArray s 0 0 A) (F0 m 12 ls []) := by
    intro k12 hk12 d_ad v3 hf H locs hw ls hl
    unfold b_X9_stores_12 at hf
    refine r_iload0 C hl 3 rfl dX9_stores_12 ?_
    refine lv_bipush (v := 16) C.1 C.2.1 dX9_stores_13 (by decide) ?_
    refine lv_icmp_ge (tgt := 50) C.1 C.2.1 dX9_stores_15 (by decide) (fun hc => ?_) (fun hc => ?_)
    · replace hf := ifp hf hc
      refine r_aload0 C hl 0 rfl dX9_stores_50 ?_
      refine r_iload0 C hl 2 rfl dX9_stores_51 ?_
      obtain ⟨u3, e3, hf⟩ := bx hf
      refine r_callSi (ws' := (dO G ad d_ad dw ++ [])) (As := [.int x2]) (rest := [.ref (ad 99)]) C hw hl.1 kX9_dataAt ml_X9_274 (c_X9_dataAt l G _ x2 u3 e3) CutX.none ⟨rfl, rfl⟩ ⟨Nat.le_of_ble_eq_true rfl, Nat.le_of_ble_eq_true rfl⟩ rfl ⟨Nat.zero_le _, Nat.zero_le _⟩ rfl (Nat.le_of_ble_eq_true rfl) dX9_stores_52 (fun H locs hw => ?_)
      obtain ⟨u4, e4, hf⟩ := bx hf
      refine r_callVi (ws' := (dO G ad u4.2 dw ++ [])) (As := [.int u3]) (rest := []) C hw hl.1 kX9_areAlike ml_X9_283 (c_X9_areAlike l G ad _ d_ad dw u3 u4 e4) (CutX.take dO_f CutX.none) _ (gx_h dO_o) rfl ⟨rfl, rfl⟩ ⟨Nat.le_of_ble_eq_true rfl, Nat.le_of_ble_eq_true rfl⟩ rfl ⟨Nat.zero_le _, Nat.zero_le _⟩ rfl (Nat.le_of_ble_eq_true rfl) dX9_stores_55 (fun H locs hw => ?_)
      refine lv_if_eq (tgt := 74) C.1 C.2.1 dX9_stores_58 (by decide) (fun hc => ?_) (fun hc => ?_)
      · replace hf := ifp hf hc
        refine r_aload0 C hl 0 rfl dX9_stores_74 ?_
        refine r_get C hw _ (gx_h dO_o) 20 fl_X9_35 rfl dX9_stores_75 ?_
        refine lv_sipush (v := 195) C.1 C.2.1 dX9_stores_78 (by decide) ?_
        refine r_iload0 C hl 1 rfl dX9_stores_81 ?_
        refine lv_iadd C.1 C.2.1 dX9_stores_82 ?_
        refine r_aload0 C hl 0 rfl dX9_stores_83 ?_
        refine r_iload0 C hl 2 rfl dX9_stores_84 ?_
        obtain ⟨u5, e5, hf⟩ := bx hf
        refine r_callSi (ws' := (dO G ad u4.2 dw ++ [])) (As := [.int x2]) (rest := [.ref (ad 99), .int (195 + x1), .ref (ad 20)]) C hw hl.1 kX9_dataAt ml_X9_274 (c_X9_dataAt l G _ x2 u5 e5) CutX.none ⟨rfl, rfl⟩ ⟨Nat.le_of_ble_eq_true rfl, Nat.le_of_ble_eq_true rfl⟩ rfl ⟨Nat.zero_le _, Nat.zero_le _⟩ rfl (Nat.le_of_ble_eq_true rfl) dX9_stores_85 (fun H locs hw => ?_)
        obtain ⟨u6, e6, hf⟩ := bx hf
        refine r_callVi (ws' := (dO G ad u6.2 dw ++ [])) (As := [.int u5]) (rest := [.int (195 + x1), .ref (ad 20)]) C hw hl.1 kX9_cutAll ml_X9_277 (c_X9_cutAll l G ad _ u4.2 dw u5 u6 e6) (CutX.take dO_f CutX.none) _ (gx_h dO_o) rfl ⟨rfl, rfl⟩ ⟨Nat.le_of_ble_eq_true rfl, Nat.le_of_ble_eq_true rfl⟩ rfl ⟨Nat.zero_le _, Nat.zero_le _⟩ rfl (Nat.le_of_ble_eq_true rfl) dX9_stores_88 (fun H locs hw => ?_)
        obtain ⟨d_ad7, e7, hf⟩ := bx hf
        refine r_iast C hw _ (gx_h dO_g20) e7 (dO G ad d_ad7 dw ++ []) (fun h => (sx_h dO_g20 (dO_s20 h))) dX9_stores_91 (fun H locs hw => ?_)
        refine r_aload0 C hl 0 rfl dX9_stores_92 ?_
        refine r_get C hw _ (gx_h dO_o) 20 fl_X9_35 rfl dX9_stores_93 ?_
        refine lv_sipush (v := 195) C.1 C.2.1 dX9_stores_96 (by decide) ?_
        refine r_iload0 C hl 1 rfl dX9_stores_99 ?_
        refine lv_iadd C.1 C.2.1 dX9_stores_100 ?_
        obtain ⟨v8_, e8, hf⟩ := bx hf
        refine r_iald C hw _ (gx_h dO_g20) e8 dX9_stores_101 ?_
        refine r_aload0 C hl 0 rfl dX9_stores_102 ?_
        refine r_get C hw _ (gx_h dO_o) 4 fl_X9_231 rfl dX9_stores_103 ?_
        refine lv_icmp_le (tgt := 117) C.1 C.2.1 dX9_stores_106 (by decide) (fun hc => ?_) (fun hc => ?_)
        · replace hf := ifp hf hc
          refine r_aload0 C hl 0 rfl dX9_stores_117 ?_
          refine r_iload0 C hl 1 rfl dX9_stores_118 ?_
          obtain ⟨u9, e9, hf⟩ := bx hf
          refine r_callVv (ws' := (dO G ad u9 dw ++ [])) (As := [.int x1]) (rest := []) C hw hl.1 kX9_findsRoom ml_X9_371 (c_X9_findsRoom l G ad _ d_ad7 dw x1 u9 e9) (CutX.take dO_f CutX.none) _ (gx_h dO_o) rfl ⟨rfl, rfl⟩ ⟨Nat.le_of_ble_eq_true rfl, Nat.le_of_ble_eq_true rfl⟩ rfl ⟨Nat.zero_le _, Nat.zero_le _⟩ rfl (Nat.le_of_ble_eq_true rfl) dX9_stores_119 (fun H locs hw => ?_)
          exact hB_122  u9 hf _ _ hw _ (lv_sub hl [0, 1] rfl)
        · replace hf := ifn hf hc
          refine r_aload0 C hl 0 rfl dX9_stores_109 ?_
          refine r_iload0 C hl 1 rfl dX9_stores_110 ?_
          obtain ⟨u11, e11, hf⟩ := bx hf
          refine r_callVv (ws' := (dO G ad u11 dw ++ [])) (As := [.int x1]) (rest := []) C hw hl.1 kX9_writes ml_X9_340 (c_X9_writes l G ad _ d_ad7 dw x1 u11 e11) (CutX.take dO_f CutX.none) _ (gx_h dO_o) rfl ⟨rfl, rfl⟩ ⟨Nat.le_of_ble_eq_true rfl, Nat.le_of_ble_eq_true rfl⟩ rfl ⟨Nat.zero_le _, Nat.zero_le _⟩ rfl (Nat.le_of_ble_eq_true rfl) dX9_stores_111 (fun H locs hw => ?_)
          refine lv_goto (tgt := 122) C.1 C.2.1 dX9_stores_114 (by decide) ?_
          exact hB_122  u11 hf _ _ hw _ (lv_sub hl [0, 1] rfl)
      · replace hf := ifn hf hc
        refine r_aload0 C hl 0 rfl dX9_stores_61 ?_
        refine r_get C hw _ (gx_h dO_o) 20 fl_X9_35 rfl dX9_stores_62 ?_
        refine lv_sipush (v := 165) C.1 C.2.1 dX9_stores_65 (by decide) ?_
        refine r_iload0 C hl 1 rfl dX9_stores_68 ?_
        refine lv_iadd C.1 C.2.1 dX9_stores_69 ?_
        refine lv_iconst (v := 1) C.1 C.2.1 dX9_stores_70 (by decide) ?_
        obtain ⟨d_ad12, e12, hf⟩ := bx hf
        refine r_iast C hw _ (gx_h dO_g20) e12 (dO G ad d_ad12 dw ++ []) (fun h => (sx_h dO_g20 (dO_s20 h))) dX9_stores_71 (fun H locs hw => ?_)
        refine lv_iconst (v := 1) C.1 C.2.1 dX9_stores_72 (by decide) ?_
        exact fin_i C hw (Option.some.inj hf) (fun o => o.1) (fun o => (dO G ad o.2 dw ++ [])) rfl rfl dX9_stores_73
    · replace hf := ifn hf hc
      refine r_aload0 C hl 0 rfl dX9_stores_18 ?_
      refine r_get C hw _ (gx_h dO_o) 20 fl_X9_35 rfl dX9_stores_19 ?_
      refine lv_sipush (v := 316) C.1 C.2.1 dX9_stores_22 (by decide) ?_
      refine lv_bipush (v := 16) C.1 C.2.1 dX9_stores_25 (by decide) ?_
      refine r_iload0 C hl 1 rfl dX9_stores_27 ?_
      refine lv_imul C.1 C.2.1 dX9_stores_28 ?_
      refine lv_iadd C.1 C.2.1 dX9_stores_29 ?_
      refine r_iload0 C hl 3 rfl dX9_stores_30 ?_
      refine lv_iadd C.1 C.2.1 dX9_stores_31 ?_
      refine r_aload0 C hl 0 rfl dX9_stores_32 ?_
      refine r_get C hw _ (gx_h dO_o) 20 fl_X9_35 rfl dX9_stores_33 ?_
      refine r_iload0 C hl 2 rfl dX9_stores_36 ?_
      obtain ⟨u13, e13, hf⟩ := bx hf
      refine r_callSi (ws' := (dO G ad d_ad dw ++ [])) (As := [.int x2]) (rest := [.ref (ad 20), .int ((316 + (16 * x1)) + v3), .ref (ad 20)]) C hw hl.1 kX9_dataAt ml_X9_274 (c_X9_dataAt l G _ x2 u13 e13) CutX.none ⟨rfl, rfl⟩ ⟨Nat.le_of_ble_eq_true rfl, Nat.le_of_ble_eq_true rfl⟩ rfl ⟨Nat.zero_le _, Nat.zero_le _⟩ rfl (Nat.le_of_ble_eq_true rfl) dX9_stores_37 (fun H locs hw => ?_)
      refine r_iload0 C hl 3 rfl dX9_stores_40 ?_
      refine lv_iadd C.1 C.2.1 dX9_stores_41 ?_
      obtain ⟨v14_, e14, hf⟩ := bx hf
      refine r_iald C hw _ (gx_h dO_g20) e14 dX9_stores_42 ?_
      obtain ⟨d_ad15, e15, hf⟩ := bx hf
      refine r_iast C hw _ (gx_h dO_g20) e15 (dO G ad d_ad15 dw ++ []) (fun h => (sx_h dO_g20 (dO_s20 h))) dX9_stores_43 (fun H locs hw => ?_)
      refine r_iinc C hl 3 (v3 + 1) [(3, .int (v3 + 1)), (0, .ref (ad 99)), (1, .int x1), (2, .int x2)] rfl (iinc_e (by decide)) (by decide) rfl dX9_stores_44 (fun ls hl => ?_)
      refine lv_goto (tgt := 12) C.1 C.2.1 dX9_stores_47 (by decide) ?_
      exact hk12 d_ad15 (v3 + 1) hf _ _ hw _ (lv_sub hl [1, 2, 3, 0] rfl)
  have hL_12 : ∀ n : Nat, ∀ (d_ad : Pic) (v3 : Int32), L_X9_stores_12 x1 x2  n d_ad v3 = some out → ∀ (H : Heap) (locs : List Loc), Wd G A s H locs (dO G ad d_ad dw ++ []) → ∀ ls : Array Slot, lv_has ls 4 [(0, .ref (ad 99)), (1, .int x1), (2, .int x2), (3, .int v3)] → W p l e ({ frames := 5, cells := 0, slots := 0, locals := 112 }) s m [.ref (ad 99), .int x1, .int x2].toArray below meth c H locs 0 0 (MQ below (Ans G out.1 A (dO G ad out.2 dw ++ [])) [.ref (ad 99), .int x1, .int x2].toArray s 0 0 A) (F0 m 12 ls []) := by
    intro  n
    induction n with
    | zero => intro d_ad v3 hf; cases hf
    | succ n ih => exact hB_12 _ ih
  unfold f_X9_stores at hf
  refine r_aload0 C hl 0 rfl dX9_stores_0 ?_
  refine lv_iconst (v := 0) C.1 C.2.1 dX9_stores_1 (by decide) ?_
  obtain ⟨d_ad1, e1, hf⟩ := bx hf
  refine r_put C hw _ (gx_h dO_o) 43 fp_X9_343 rfl rfl (Nat.le_of_ble_eq_true rfl) (dO G ad d_ad1 dw ++ []) (sx_h dO_o (dO_p43 e1)) dX9_stores_2 (fun H locs hw => ?_)
  refine r_aload0 C hl 0 rfl dX9_stores_5 ?_
  refine r_iload0 C hl 1 rfl dX9_stores_6 ?_
  obtain ⟨u2, e2, hf⟩ := bx hf
  refine r_callVv (ws' := (dO G ad u2 dw ++ [])) (As := [.int x1]) (rest := []) C hw hl.1 kX9_dropsOne ml_X9_368 (c_X9_dropsOne l G ad _ d_ad1 dw x1 u2 e2) (CutX.take dO_f CutX.none) _ (gx_h dO_o) rfl ⟨rfl, rfl⟩ ⟨Nat.le_of_ble_eq_true rfl, Nat.le_of_ble_eq_true rfl⟩ rfl ⟨Nat.zero_le _, Nat.zero_le _⟩ rfl (Nat.le_of_ble_eq_true rfl) dX9_stores_7 (fun H locs hw => ?_)
  refine lv_iconst (v := 0) C.1 C.2.1 dX9_stores_10 (by decide) ?_
  refine r_istore0 C hl [(3, .int 0), (0, .ref (ad 99)), (1, .int x1), (2, .int x2)] (by decide) rfl dX9_stores_11 (fun ls hl => ?_)
  exact hL_12  FU u2 0 hf _ _ hw _ (lv_sub hl [1, 2, 3, 0] rfl)
