set_option maxHeartbeats 4000000 in
set_option maxRecDepth 100000 in
theorem c_X9_loads (l : Launch) (G : GG) (ad : Nat → Nat) (sz : Nat) (d_ad : Pic) (dw : Int64) (x1 : Int32) (out : Pic) (hf : f_X9_loads d_ad x1 = some out) : Met l yX9_loads (.code yX9_loads cX9_loads 2 none :: BT) ({ frames := 2, cells := 0, slots := 0, locals := 45 }) (va_Pc [.ref (ad 99), .int x1] (PreW G sz (dO G ad d_ad dw ++ []))) (Don G (va_A (dO G ad d_ad dw ++ []) sz) (dO G ad out dw ++ [])) 0 0 (va_A (dO G ad d_ad dw ++ []) sz) := by
  refine Met.into (by decide) (Nat.le_of_ble_eq_true rfl) ?_
  intro p e s m below meth c C hsz ls hl hw
  have hl : lv_has ls 2 [(0, .ref (ad 99)), (1, .int x1)] := hl
  clear hsz
  generalize va_A (dO G ad d_ad dw ++ []) sz = A at hw ⊢
  have hB_19 : ∀ (d_ad : Pic), b_X9_loads_19 x1  d_ad = some out → ∀ (H : Heap) (locs : List Loc), Wd G A s H locs (dO G ad d_ad dw ++ []) → ∀ ls : Array Slot, lv_has ls 2 [(0, .ref (ad 99)), (1, .int x1)] → W p l e ({ frames := 2, cells := 0, slots := 0, locals := 45 }) s m [.ref (ad 99), .int x1].toArray below meth c H locs 0 0 (MQ below (Don G A (dO G ad out dw ++ [])) [.ref (ad 99), .int x1].toArray s 0 0 A) (F0 m 19 ls []) := by
    intro d_ad hf H locs hw ls hl
    unfold b_X9_loads_19 at hf
    refine r_aload0 C hl 0 rfl dX9_loads_19 ?_
    refine r_iload0 C hl 1 rfl dX9_loads_20 ?_
    obtain ⟨u2, e2, hf⟩ := bx hf
    refine r_callVi (ws' := (dO G ad d_ad dw ++ [])) (As := [.int x1]) (rest := []) C hw hl.1 kX9_placeOf ml_X9_325 (c_X9_placeOf l G ad _ d_ad dw x1 u2 e2) (CutX.take dO_f CutX.none) _ (gx_h dO_o) rfl ⟨rfl, rfl⟩ ⟨Nat.le_of_ble_eq_true rfl, Nat.le_of_ble_eq_true rfl⟩ rfl ⟨Nat.zero_le _, Nat.zero_le _⟩ rfl (Nat.le_of_ble_eq_true rfl) dX9_loads_21 (fun H locs hw => ?_)
    refine lv_iconst (v := 2) C.1 C.2.1 dX9_loads_24 (by decide) ?_
    refine lv_icmp_eq (tgt := 29) C.1 C.2.1 dX9_loads_25 (by decide) (fun hc => ?_) (fun hc => ?_)
    · replace hf := ifp hf hc
      refine r_aload0 C hl 0 rfl dX9_loads_29 ?_
      refine r_iload0 C hl 1 rfl dX9_loads_30 ?_
      obtain ⟨u3, e3, hf⟩ := bx hf
      refine r_callVv (ws' := (dO G ad u3 dw ++ [])) (As := [.int x1]) (rest := []) C hw hl.1 kX9_forgets ml_X9_331 (c_X9_forgets l G ad _ d_ad dw x1 u3 e3) (CutX.take dO_f CutX.none) _ (gx_h dO_o) rfl ⟨rfl, rfl⟩ ⟨Nat.le_of_ble_eq_true rfl, Nat.le_of_ble_eq_true rfl⟩ rfl ⟨Nat.zero_le _, Nat.zero_le _⟩ rfl (Nat.le_of_ble_eq_true rfl) dX9_loads_31 (fun H locs hw => ?_)
      refine r_aload0 C hl 0 rfl dX9_loads_34 ?_
      refine r_iload0 C hl 1 rfl dX9_loads_35 ?_
      obtain ⟨u4, e4, hf⟩ := bx hf
      refine r_callVv (ws' := (dO G ad u4 dw ++ [])) (As := [.int x1]) (rest := []) C hw hl.1 kX9_growsOld ml_X9_353 (c_X9_growsOld l G ad _ u3 dw x1 u4 e4) (CutX.take dO_f CutX.none) _ (gx_h dO_o) rfl ⟨rfl, rfl⟩ ⟨Nat.le_of_ble_eq_true rfl, Nat.le_of_ble_eq_true rfl⟩ rfl ⟨Nat.zero_le _, Nat.zero_le _⟩ rfl (Nat.le_of_ble_eq_true rfl) dX9_loads_36 (fun H locs hw => ?_)
      exact fin_v C hw (Option.some.inj hf) (fun o => (dO G ad o dw ++ [])) rfl dX9_loads_39
    · replace hf := ifn hf hc
      exact fin_v C hw (Option.some.inj hf) (fun o => (dO G ad o dw ++ [])) rfl dX9_loads_28
  unfold f_X9_loads at hf
  refine r_aload0 C hl 0 rfl dX9_loads_0 ?_
  refine r_iload0 C hl 1 rfl dX9_loads_1 ?_
  obtain ⟨u1, e1, hf⟩ := bx hf
  refine r_callVi (ws' := (dO G ad d_ad dw ++ [])) (As := [.int x1]) (rest := []) C hw hl.1 kX9_placeOf ml_X9_325 (c_X9_placeOf l G ad _ d_ad dw x1 u1 e1) (CutX.take dO_f CutX.none) _ (gx_h dO_o) rfl ⟨rfl, rfl⟩ ⟨Nat.le_of_ble_eq_true rfl, Nat.le_of_ble_eq_true rfl⟩ rfl ⟨Nat.zero_le _, Nat.zero_le _⟩ rfl (Nat.le_of_ble_eq_true rfl) dX9_loads_2 (fun H locs hw => ?_)
  refine lv_iconst (v := 3) C.1 C.2.1 dX9_loads_5 (by decide) ?_
  refine lv_icmp_ne (tgt := 19) C.1 C.2.1 dX9_loads_6 (by decide) (fun hc => ?_) (fun hc => ?_)
  · replace hf := ifn hf hc
    exact hB_19  d_ad hf _ _ hw _ (lv_sub hl [0, 1] rfl)
  · replace hf := ifp hf hc
    refine r_aload0 C hl 0 rfl dX9_loads_9 ?_
    refine r_get C hw _ (gx_h dO_o) 20 fl_X9_35 rfl dX9_loads_10 ?_
    refine lv_iconst (v := 3) C.1 C.2.1 dX9_loads_13 (by decide) ?_
    refine lv_dup2_11 C.1 C.2.1 dX9_loads_14 rfl rfl ?_
    obtain ⟨v5_, e5, hf⟩ := bx hf
    refine r_iald C hw _ (gx_h dO_g20) e5 dX9_loads_15 ?_
    refine lv_iconst (v := 1) C.1 C.2.1 dX9_loads_16 (by decide) ?_
    refine lv_iadd C.1 C.2.1 dX9_loads_17 ?_
    obtain ⟨d_ad6, e6, hf⟩ := bx hf
    refine r_iast C hw _ (gx_h dO_g20) e6 (dO G ad d_ad6 dw ++ []) (fun h => (sx_h dO_g20 (dO_s20 h))) dX9_loads_18 (fun H locs hw => ?_)
    exact hB_19  d_ad6 hf _ _ hw _ (lv_sub hl [0, 1] rfl)
set_option maxHeartbeats 4000000 in
set_option maxRecDepth 100000 in
theorem c_X9_page (l : Launch) (G : GG) (ad : Nat → Nat) (sz : Nat) (d_ad : Pic) (dw : Int64) (x1 : Int32) (out : Int32 × Pic) (hf : f_X9_page d_ad x1 = some out) : Met l yX9_page (.code yX9_page cX9_page 2 (some .int) :: BT) ({ frames := 2, cells := 0, slots := 0, locals := 43 }) (va_Pc [.ref (ad 99), .int x1] (PreW G sz (dO G ad d_ad dw ++ []))) (Ans G out.1 (va_A (dO G ad d_ad dw ++ []) sz) (dO G ad out.2 dw ++ [])) 0 0 (va_A (dO G ad d_ad dw ++ []) sz) := by
  refine Met.into (by decide) (Nat.le_of_ble_eq_true rfl) ?_
  intro p e s m below meth c C hsz ls hl hw
  have hl : lv_has ls 2 [(0, .ref (ad 99)), (1, .int x1)] := hl
  clear hsz
  generalize va_A (dO G ad d_ad dw ++ []) sz = A at hw ⊢
  unfold f_X9_page at hf
  refine r_aload0 C hl 0 rfl dX9_page_0 ?_
  refine lv_iconst (v := 0) C.1 C.2.1 dX9_page_1 (by decide) ?_
  obtain ⟨d_ad1, e1, hf⟩ := bx hf
  refine r_put C hw _ (gx_h dO_o) 0 fp_X9_75 rfl rfl (Nat.le_of_ble_eq_true rfl) (dO G ad d_ad1 dw ++ []) (sx_h dO_o (dO_p0 e1)) dX9_page_2 (fun H locs hw => ?_)
  refine r_aload0 C hl 0 rfl dX9_page_5 ?_
  refine r_iload0 C hl 1 rfl dX9_page_6 ?_
  obtain ⟨u2, e2, hf⟩ := bx hf
  refine r_callVi (ws' := (dO G ad d_ad1 dw ++ [])) (As := [.int x1]) (rest := []) C hw hl.1 kX9_isPage ml_X9_374 (c_X9_isPage l G ad _ d_ad1 dw x1 u2 e2) (CutX.take dO_f CutX.none) _ (gx_h dO_o) rfl ⟨rfl, rfl⟩ ⟨Nat.le_of_ble_eq_true rfl, Nat.le_of_ble_eq_true rfl⟩ rfl ⟨Nat.zero_le _, Nat.zero_le _⟩ rfl (Nat.le_of_ble_eq_true rfl) dX9_page_7 (fun H locs hw => ?_)
  refine lv_if_eq (tgt := 25) C.1 C.2.1 dX9_page_10 (by decide) (fun hc => ?_) (fun hc => ?_)
  · replace hf := ifp hf hc
    refine r_aload0 C hl 0 rfl dX9_page_25 ?_
    refine lv_iconst (v := 1) C.1 C.2.1 dX9_page_26 (by decide) ?_
    obtain ⟨u3, e3, hf⟩ := bx hf
    refine r_callVi (ws' := (dO G ad u3.2 dw ++ [])) (As := [.int 1]) (rest := []) C hw hl.1 kX9_refused ml_X9_210 (c_X9_refused l G ad _ d_ad1 dw 1 u3 e3) (CutX.take dO_f CutX.none) _ (gx_h dO_o) rfl ⟨rfl, rfl⟩ ⟨Nat.le_of_ble_eq_true rfl, Nat.le_of_ble_eq_true rfl⟩ rfl ⟨Nat.zero_le _, Nat.zero_le _⟩ rfl (Nat.le_of_ble_eq_true rfl) dX9_page_27 (fun H locs hw => ?_)
    exact fin_i C hw (Option.some.inj hf) (fun o => o.1) (fun o => (dO G ad o.2 dw ++ [])) rfl rfl dX9_page_30
  · replace hf := ifn hf hc
    refine r_aload0 C hl 0 rfl dX9_page_13 ?_
    refine r_aload0 C hl 0 rfl dX9_page_14 ?_
    refine r_iload0 C hl 1 rfl dX9_page_15 ?_
    obtain ⟨u4, e4, hf⟩ := bx hf
    refine r_callVi (ws' := (dO G ad d_ad1 dw ++ [])) (As := [.int x1]) (rest := [.ref (ad 99)]) C hw hl.1 kX9_placeOf ml_X9_325 (c_X9_placeOf l G ad _ d_ad1 dw x1 u4 e4) (CutX.take dO_f CutX.none) _ (gx_h dO_o) rfl ⟨rfl, rfl⟩ ⟨Nat.le_of_ble_eq_true rfl, Nat.le_of_ble_eq_true rfl⟩ rfl ⟨Nat.zero_le _, Nat.zero_le _⟩ rfl (Nat.le_of_ble_eq_true rfl) dX9_page_16 (fun H locs hw => ?_)
    obtain ⟨u5, e5, hf⟩ := bx hf
    refine r_callVi (ws' := (dO G ad u5.2 dw ++ [])) (As := [.int u4]) (rest := []) C hw hl.1 kX9_good ml_X9_222 (c_X9_good l G ad _ d_ad1 dw u4 u5 e5) (CutX.take dO_f CutX.none) _ (gx_h dO_o) rfl ⟨rfl, rfl⟩ ⟨Nat.le_of_ble_eq_true rfl, Nat.le_of_ble_eq_true rfl⟩ rfl ⟨Nat.zero_le _, Nat.zero_le _⟩ rfl (Nat.le_of_ble_eq_true rfl) dX9_page_19 (fun H locs hw => ?_)
    refine lv_goto (tgt := 30) C.1 C.2.1 dX9_page_22 (by decide) ?_
    exact fin_i C hw (Option.some.inj hf) (fun o => o.1) (fun o => (dO G ad o.2 dw ++ [])) rfl rfl dX9_page_30
set_option maxHeartbeats 4000000 in
set_option maxRecDepth 100000 in
theorem c_X9_pooled (l : Launch) (G : GG) (ad : Nat → Nat) (sz : Nat) (d_ad : Pic) (dw : Int64) (x1 : Int32) (x2 : Int32) (out : Int32 × Pic) (hf : f_X9_pooled d_ad x1 x2 = some out) : Met l yX9_pooled (.code yX9_pooled cX9_pooled 3 (some .int) :: BT) ({ frames := 2, cells := 0, slots := 0, locals := 43 }) (va_Pc [.ref (ad 99), .int x1, .int x2] (PreW G sz (dO G ad d_ad dw ++ []))) (Ans G out.1 (va_A (dO G ad d_ad dw ++ []) sz) (dO G ad out.2 dw ++ [])) 0 0 (va_A (dO G ad d_ad dw ++ []) sz) := by
  refine Met.into (by decide) (Nat.le_of_ble_eq_true rfl) ?_
  intro p e s m below meth c C hsz ls hl hw
  have hl : lv_has ls 3 [(0, .ref (ad 99)), (1, .int x1), (2, .int x2)] := hl
  clear hsz
  generalize va_A (dO G ad d_ad dw ++ []) sz = A at hw ⊢
  have hB_22 : ∀ (d_ad : Pic), b_X9_pooled_22 x1 x2  d_ad = some out → ∀ (H : Heap) (locs : List Loc), Wd G A s H locs (dO G ad d_ad dw ++ []) → ∀ ls : Array Slot, lv_has ls 3 [(0, .ref (ad 99))] → W p l e ({ frames := 2, cells := 0, slots := 0, locals := 43 }) s m [.ref (ad 99), .int x1, .int x2].toArray below meth c H locs 0 0 (MQ below (Ans G out.1 A (dO G ad out.2 dw ++ [])) [.ref (ad 99), .int x1, .int x2].toArray s 0 0 A) (F0 m 22 ls []) := by
    intro d_ad hf H locs hw ls hl
    unfold b_X9_pooled_22 at hf
    refine r_aload0 C hl 0 rfl dX9_pooled_22 ?_
    refine lv_iconst (v := 1) C.1 C.2.1 dX9_pooled_23 (by decide) ?_
    obtain ⟨u3, e3, hf⟩ := bx hf
    refine r_callVi (ws' := (dO G ad u3.2 dw ++ [])) (As := [.int 1]) (rest := []) C hw hl.1 kX9_refused ml_X9_210 (c_X9_refused l G ad _ d_ad dw 1 u3 e3) (CutX.take dO_f CutX.none) _ (gx_h dO_o) rfl ⟨rfl, rfl⟩ ⟨Nat.le_of_ble_eq_true rfl, Nat.le_of_ble_eq_true rfl⟩ rfl ⟨Nat.zero_le _, Nat.zero_le _⟩ rfl (Nat.le_of_ble_eq_true rfl) dX9_pooled_24 (fun H locs hw => ?_)
    exact fin_i C hw (Option.some.inj hf) (fun o => o.1) (fun o => (dO G ad o.2 dw ++ [])) rfl rfl dX9_pooled_27
  unfold f_X9_pooled at hf
  refine r_aload0 C hl 0 rfl dX9_pooled_0 ?_
  refine lv_iconst (v := 0) C.1 C.2.1 dX9_pooled_1 (by decide) ?_
  obtain ⟨d_ad1, e1, hf⟩ := bx hf
  refine r_put C hw _ (gx_h dO_o) 0 fp_X9_75 rfl rfl (Nat.le_of_ble_eq_true rfl) (dO G ad d_ad1 dw ++ []) (sx_h dO_o (dO_p0 e1)) dX9_pooled_2 (fun H locs hw => ?_)
  refine r_aload0 C hl 0 rfl dX9_pooled_5 ?_
  refine r_iload0 C hl 1 rfl dX9_pooled_6 ?_
  obtain ⟨u2, e2, hf⟩ := bx hf
  refine r_callVi (ws' := (dO G ad d_ad1 dw ++ [])) (As := [.int x1]) (rest := []) C hw hl.1 kX9_isPage ml_X9_374 (c_X9_isPage l G ad _ d_ad1 dw x1 u2 e2) (CutX.take dO_f CutX.none) _ (gx_h dO_o) rfl ⟨rfl, rfl⟩ ⟨Nat.le_of_ble_eq_true rfl, Nat.le_of_ble_eq_true rfl⟩ rfl ⟨Nat.zero_le _, Nat.zero_le _⟩ rfl (Nat.le_of_ble_eq_true rfl) dX9_pooled_7 (fun H locs hw => ?_)
  refine lv_if_eq (tgt := 22) C.1 C.2.1 dX9_pooled_10 (by decide) (fun hc => ?_) (fun hc => ?_)
  · replace hf := ifp hf hc
    exact hB_22  d_ad1 hf _ _ hw _ (lv_sub hl [0] rfl)
  · replace hf := ifn hf hc
    refine r_iload0 C hl 2 rfl dX9_pooled_13 ?_
    refine lv_iconst (v := 0) C.1 C.2.1 dX9_pooled_14 (by decide) ?_
    refine lv_iconst (v := 4) C.1 C.2.1 dX9_pooled_15 (by decide) ?_
    obtain ⟨u4, e4, hf⟩ := bx hf
    refine r_callSi (ws' := (dO G ad d_ad1 dw ++ [])) (As := [.int x2, .int 0, .int 4]) (rest := []) C hw hl.1 kX9_in ml_X9_100 (c_X9_in l G _ x2 0 4 u4 e4) CutX.none ⟨rfl, rfl⟩ ⟨Nat.le_of_ble_eq_true rfl, Nat.le_of_ble_eq_true rfl⟩ rfl ⟨Nat.zero_le _, Nat.zero_le _⟩ rfl (Nat.le_of_ble_eq_true rfl) dX9_pooled_16 (fun H locs hw => ?_)
    refine lv_if_ne (tgt := 28) C.1 C.2.1 dX9_pooled_19 (by decide) (fun hc => ?_) (fun hc => ?_)
    · replace hf := ifn hf hc
      refine r_aload0 C hl 0 rfl dX9_pooled_28 ?_
      refine r_iload0 C hl 1 rfl dX9_pooled_29 ?_
      obtain ⟨u5, e5, hf⟩ := bx hf
      refine r_callVi (ws' := (dO G ad d_ad1 dw ++ [])) (As := [.int x1]) (rest := []) C hw hl.1 kX9_placeOf ml_X9_325 (c_X9_placeOf l G ad _ d_ad1 dw x1 u5 e5) (CutX.take dO_f CutX.none) _ (gx_h dO_o) rfl ⟨rfl, rfl⟩ ⟨Nat.le_of_ble_eq_true rfl, Nat.le_of_ble_eq_true rfl⟩ rfl ⟨Nat.zero_le _, Nat.zero_le _⟩ rfl (Nat.le_of_ble_eq_true rfl) dX9_pooled_30 (fun H locs hw => ?_)
      refine lv_iconst (v := 2) C.1 C.2.1 dX9_pooled_33 (by decide) ?_
      refine lv_icmp_eq (tgt := 43) C.1 C.2.1 dX9_pooled_34 (by decide) (fun hc => ?_) (fun hc => ?_)
      · replace hf := ifp hf hc
        refine r_iload0 C hl 2 rfl dX9_pooled_43 ?_
        rcases Decidable.em (x2 = 0) with hc | h0_
        · replace hf := ifp hf hc
          refine lv_tableIn (tgt := 76) C.1 C.2.1 dX9_pooled_44 (by rw [hc]; decide) (by rw [hc]; decide) (by rw [hc]; rfl) (by decide) ?_
          refine r_aload0 C hl 0 rfl dX9_pooled_76 ?_
          refine r_aload0 C hl 0 rfl dX9_pooled_77 ?_
          refine r_get C hw _ (gx_h dO_o) 20 fl_X9_35 rfl dX9_pooled_78 ?_
          refine lv_sipush (v := 195) C.1 C.2.1 dX9_pooled_81 (by decide) ?_
          refine r_iload0 C hl 1 rfl dX9_pooled_84 ?_
          refine lv_iadd C.1 C.2.1 dX9_pooled_85 ?_
          obtain ⟨v14_, e14, hf⟩ := bx hf
          refine r_iald C hw _ (gx_h dO_g20) e14 dX9_pooled_86 ?_
          obtain ⟨u15, e15, hf⟩ := bx hf
          refine r_callVi (ws' := (dO G ad u15.2 dw ++ [])) (As := [.int v14_]) (rest := []) C hw hl.1 kX9_good ml_X9_222 (c_X9_good l G ad _ d_ad1 dw v14_ u15 e15) (CutX.take dO_f CutX.none) _ (gx_h dO_o) rfl ⟨rfl, rfl⟩ ⟨Nat.le_of_ble_eq_true rfl, Nat.le_of_ble_eq_true rfl⟩ rfl ⟨Nat.zero_le _, Nat.zero_le _⟩ rfl (Nat.le_of_ble_eq_true rfl) dX9_pooled_87 (fun H locs hw => ?_)
          exact fin_i C hw (Option.some.inj hf) (fun o => o.1) (fun o => (dO G ad o.2 dw ++ [])) rfl rfl dX9_pooled_90
        replace hf := ifn hf h0_
        rcases Decidable.em (x2 = 1) with hc | h1_
        · replace hf := ifp hf hc
          refine lv_tableIn (tgt := 91) C.1 C.2.1 dX9_pooled_44 (by rw [hc]; decide) (by rw [hc]; decide) (by rw [hc]; rfl) (by decide) ?_
          refine r_aload0 C hl 0 rfl dX9_pooled_91 ?_
          refine r_aload0 C hl 0 rfl dX9_pooled_92 ?_
          refine r_get C hw _ (gx_h dO_o) 20 fl_X9_35 rfl dX9_pooled_93 ?_
          refine lv_sipush (v := 225) C.1 C.2.1 dX9_pooled_96 (by decide) ?_
          refine r_iload0 C hl 1 rfl dX9_pooled_99 ?_
          refine lv_iadd C.1 C.2.1 dX9_pooled_100 ?_
          obtain ⟨v12_, e12, hf⟩ := bx hf
          refine r_iald C hw _ (gx_h dO_g20) e12 dX9_pooled_101 ?_
          obtain ⟨u13, e13, hf⟩ := bx hf
          refine r_callVi (ws' := (dO G ad u13.2 dw ++ [])) (As := [.int v12_]) (rest := []) C hw hl.1 kX9_good ml_X9_222 (c_X9_good l G ad _ d_ad1 dw v12_ u13 e13) (CutX.take dO_f CutX.none) _ (gx_h dO_o) rfl ⟨rfl, rfl⟩ ⟨Nat.le_of_ble_eq_true rfl, Nat.le_of_ble_eq_true rfl⟩ rfl ⟨Nat.zero_le _, Nat.zero_le _⟩ rfl (Nat.le_of_ble_eq_true rfl) dX9_pooled_102 (fun H locs hw => ?_)
          exact fin_i C hw (Option.some.inj hf) (fun o => o.1) (fun o => (dO G ad o.2 dw ++ [])) rfl rfl dX9_pooled_105
        replace hf := ifn hf h1_
        rcases Decidable.em (x2 = 2) with hc | h2_
        · replace hf := ifp hf hc
          refine lv_tableIn (tgt := 106) C.1 C.2.1 dX9_pooled_44 (by rw [hc]; decide) (by rw [hc]; decide) (by rw [hc]; rfl) (by decide) ?_
          refine r_aload0 C hl 0 rfl dX9_pooled_106 ?_
          refine r_aload0 C hl 0 rfl dX9_pooled_107 ?_
          refine r_get C hw _ (gx_h dO_o) 20 fl_X9_35 rfl dX9_pooled_108 ?_
          refine lv_sipush (v := 255) C.1 C.2.1 dX9_pooled_111 (by decide) ?_
          refine r_iload0 C hl 1 rfl dX9_pooled_114 ?_
          refine lv_iadd C.1 C.2.1 dX9_pooled_115 ?_
          obtain ⟨v10_, e10, hf⟩ := bx hf
          refine r_iald C hw _ (gx_h dO_g20) e10 dX9_pooled_116 ?_
          obtain ⟨u11, e11, hf⟩ := bx hf
          refine r_callVi (ws' := (dO G ad u11.2 dw ++ [])) (As := [.int v10_]) (rest := []) C hw hl.1 kX9_good ml_X9_222 (c_X9_good l G ad _ d_ad1 dw v10_ u11 e11) (CutX.take dO_f CutX.none) _ (gx_h dO_o) rfl ⟨rfl, rfl⟩ ⟨Nat.le_of_ble_eq_true rfl, Nat.le_of_ble_eq_true rfl⟩ rfl ⟨Nat.zero_le _, Nat.zero_le _⟩ rfl (Nat.le_of_ble_eq_true rfl) dX9_pooled_117 (fun H locs hw => ?_)
          exact fin_i C hw (Option.some.inj hf) (fun o => o.1) (fun o => (dO G ad o.2 dw ++ [])) rfl rfl dX9_pooled_120
        replace hf := ifn hf h2_
        rcases Decidable.em (x2 = 3) with hc | h3_
        · replace hf := ifp hf hc
          refine lv_tableIn (tgt := 121) C.1 C.2.1 dX9_pooled_44 (by rw [hc]; decide) (by rw [hc]; decide) (by rw [hc]; rfl) (by decide) ?_
          refine r_aload0 C hl 0 rfl dX9_pooled_121 ?_
          refine r_aload0 C hl 0 rfl dX9_pooled_122 ?_
          refine r_iload0 C hl 1 rfl dX9_pooled_123 ?_
          obtain ⟨u8, e8, hf⟩ := bx hf
          refine r_callVi (ws' := (dO G ad d_ad1 dw ++ [])) (As := [.int x1]) (rest := [.ref (ad 99)]) C hw hl.1 kX9_ageOf ml_X9_319 (c_X9_ageOf l G ad _ d_ad1 dw x1 u8 e8) (CutX.take dO_f CutX.none) _ (gx_h dO_o) rfl ⟨rfl, rfl⟩ ⟨Nat.le_of_ble_eq_true rfl, Nat.le_of_ble_eq_true rfl⟩ rfl ⟨Nat.zero_le _, Nat.zero_le _⟩ rfl (Nat.le_of_ble_eq_true rfl) dX9_pooled_124 (fun H locs hw => ?_)
          obtain ⟨u9, e9, hf⟩ := bx hf
          refine r_callVi (ws' := (dO G ad u9.2 dw ++ [])) (As := [.int u8]) (rest := []) C hw hl.1 kX9_good ml_X9_222 (c_X9_good l G ad _ d_ad1 dw u8 u9 e9) (CutX.take dO_f CutX.none) _ (gx_h dO_o) rfl ⟨rfl, rfl⟩ ⟨Nat.le_of_ble_eq_true rfl, Nat.le_of_ble_eq_true rfl⟩ rfl ⟨Nat.zero_le _, Nat.zero_le _⟩ rfl (Nat.le_of_ble_eq_true rfl) dX9_pooled_127 (fun H locs hw => ?_)
          exact fin_i C hw (Option.some.inj hf) (fun o => o.1) (fun o => (dO G ad o.2 dw ++ [])) rfl rfl dX9_pooled_130
        replace hf := ifn hf h3_
        refine lv_tableOut (tgt := 131) C.1 C.2.1 dX9_pooled_44 (sw_out4 h0_ h1_ h2_ h3_) (by decide) ?_
        refine r_aload0 C hl 0 rfl dX9_pooled_131 ?_
        refine r_aload0 C hl 0 rfl dX9_pooled_132 ?_
        refine r_get C hw _ (gx_h dO_o) 20 fl_X9_35 rfl dX9_pooled_133 ?_
        refine lv_sipush (v := 1204) C.1 C.2.1 dX9_pooled_136 (by decide) ?_
        refine r_iload0 C hl 1 rfl dX9_pooled_139 ?_
        refine lv_iadd C.1 C.2.1 dX9_pooled_140 ?_
        obtain ⟨v6_, e6, hf⟩ := bx hf
        refine r_iald C hw _ (gx_h dO_g20) e6 dX9_pooled_141 ?_
        obtain ⟨u7, e7, hf⟩ := bx hf
        refine r_callVi (ws' := (dO G ad u7.2 dw ++ [])) (As := [.int v6_]) (rest := []) C hw hl.1 kX9_good ml_X9_222 (c_X9_good l G ad _ d_ad1 dw v6_ u7 e7) (CutX.take dO_f CutX.none) _ (gx_h dO_o) rfl ⟨rfl, rfl⟩ ⟨Nat.le_of_ble_eq_true rfl, Nat.le_of_ble_eq_true rfl⟩ rfl ⟨Nat.zero_le _, Nat.zero_le _⟩ rfl (Nat.le_of_ble_eq_true rfl) dX9_pooled_142 (fun H locs hw => ?_)
        exact fin_i C hw (Option.some.inj hf) (fun o => o.1) (fun o => (dO G ad o.2 dw ++ [])) rfl rfl dX9_pooled_145
      · replace hf := ifn hf hc
        refine r_aload0 C hl 0 rfl dX9_pooled_37 ?_
        refine lv_iconst (v := 5) C.1 C.2.1 dX9_pooled_38 (by decide) ?_
        obtain ⟨u16, e16, hf⟩ := bx hf
        refine r_callVi (ws' := (dO G ad u16.2 dw ++ [])) (As := [.int 5]) (rest := []) C hw hl.1 kX9_refused ml_X9_210 (c_X9_refused l G ad _ d_ad1 dw 5 u16 e16) (CutX.take dO_f CutX.none) _ (gx_h dO_o) rfl ⟨rfl, rfl⟩ ⟨Nat.le_of_ble_eq_true rfl, Nat.le_of_ble_eq_true rfl⟩ rfl ⟨Nat.zero_le _, Nat.zero_le _⟩ rfl (Nat.le_of_ble_eq_true rfl) dX9_pooled_39 (fun H locs hw => ?_)
        exact fin_i C hw (Option.some.inj hf) (fun o => o.1) (fun o => (dO G ad o.2 dw ++ [])) rfl rfl dX9_pooled_42
    · replace hf := ifp hf hc
      exact hB_22  d_ad1 hf _ _ hw _ (lv_sub hl [0] rfl)
set_option maxHeartbeats 4000000 in
set_option maxRecDepth 100000 in
theorem c_X9_read (l : Launch) (G : GG) (ad : Nat → Nat) (sz : Nat) (d_ad : Pic) (dw : Int64) (x1 : Int32) (x2 : Int32) (out : Int32 × Pic) (hf : f_X9_read d_ad x1 x2 = some out) : Met l yX9_read (.code yX9_read cX9_read 3 (some .int) :: BT) ({ frames := 2, cells := 0, slots := 0, locals := 43 }) (va_Pc [.ref (ad 99), .int x1, .int x2] (PreW G sz (dO G ad d_ad dw ++ []))) (Ans G out.1 (va_A (dO G ad d_ad dw ++ []) sz) (dO G ad out.2 dw ++ [])) 0 0 (va_A (dO G ad d_ad dw ++ []) sz) := by
  refine Met.into (by decide) (Nat.le_of_ble_eq_true rfl) ?_
  intro p e s m below meth c C hsz ls hl hw
  have hl : lv_has ls 3 [(0, .ref (ad 99)), (1, .int x1), (2, .int x2)] := hl
  clear hsz
  generalize va_A (dO G ad d_ad dw ++ []) sz = A at hw ⊢
  have hB_23 : ∀ (d_ad : Pic), b_X9_read_23 x1 x2  d_ad = some out → ∀ (H : Heap) (locs : List Loc), Wd G A s H locs (dO G ad d_ad dw ++ []) → ∀ ls : Array Slot, lv_has ls 3 [(0, .ref (ad 99))] → W p l e ({ frames := 2, cells := 0, slots := 0, locals := 43 }) s m [.ref (ad 99), .int x1, .int x2].toArray below meth c H locs 0 0 (MQ below (Ans G out.1 A (dO G ad out.2 dw ++ [])) [.ref (ad 99), .int x1, .int x2].toArray s 0 0 A) (F0 m 23 ls []) := by
    intro d_ad hf H locs hw ls hl
    unfold b_X9_read_23 at hf
    refine r_aload0 C hl 0 rfl dX9_read_23 ?_
    refine lv_iconst (v := 1) C.1 C.2.1 dX9_read_24 (by decide) ?_
    obtain ⟨u3, e3, hf⟩ := bx hf
    refine r_callVi (ws' := (dO G ad u3.2 dw ++ [])) (As := [.int 1]) (rest := []) C hw hl.1 kX9_refused ml_X9_210 (c_X9_refused l G ad _ d_ad dw 1 u3 e3) (CutX.take dO_f CutX.none) _ (gx_h dO_o) rfl ⟨rfl, rfl⟩ ⟨Nat.le_of_ble_eq_true rfl, Nat.le_of_ble_eq_true rfl⟩ rfl ⟨Nat.zero_le _, Nat.zero_le _⟩ rfl (Nat.le_of_ble_eq_true rfl) dX9_read_25 (fun H locs hw => ?_)
    exact fin_i C hw (Option.some.inj hf) (fun o => o.1) (fun o => (dO G ad o.2 dw ++ [])) rfl rfl dX9_read_28
  unfold f_X9_read at hf
  refine r_aload0 C hl 0 rfl dX9_read_0 ?_
  refine lv_iconst (v := 0) C.1 C.2.1 dX9_read_1 (by decide) ?_
  obtain ⟨d_ad1, e1, hf⟩ := bx hf
  refine r_put C hw _ (gx_h dO_o) 0 fp_X9_75 rfl rfl (Nat.le_of_ble_eq_true rfl) (dO G ad d_ad1 dw ++ []) (sx_h dO_o (dO_p0 e1)) dX9_read_2 (fun H locs hw => ?_)
  refine r_aload0 C hl 0 rfl dX9_read_5 ?_
  refine r_iload0 C hl 1 rfl dX9_read_6 ?_
  obtain ⟨u2, e2, hf⟩ := bx hf
  refine r_callVi (ws' := (dO G ad d_ad1 dw ++ [])) (As := [.int x1]) (rest := []) C hw hl.1 kX9_isPage ml_X9_374 (c_X9_isPage l G ad _ d_ad1 dw x1 u2 e2) (CutX.take dO_f CutX.none) _ (gx_h dO_o) rfl ⟨rfl, rfl⟩ ⟨Nat.le_of_ble_eq_true rfl, Nat.le_of_ble_eq_true rfl⟩ rfl ⟨Nat.zero_le _, Nat.zero_le _⟩ rfl (Nat.le_of_ble_eq_true rfl) dX9_read_7 (fun H locs hw => ?_)
  refine lv_if_eq (tgt := 23) C.1 C.2.1 dX9_read_10 (by decide) (fun hc => ?_) (fun hc => ?_)
  · replace hf := ifp hf hc
    exact hB_23  d_ad1 hf _ _ hw _ (lv_sub hl [0] rfl)
  · replace hf := ifn hf hc
    refine r_iload0 C hl 2 rfl dX9_read_13 ?_
    refine lv_iconst (v := 0) C.1 C.2.1 dX9_read_14 (by decide) ?_
    refine lv_bipush (v := 15) C.1 C.2.1 dX9_read_15 (by decide) ?_
    obtain ⟨u4, e4, hf⟩ := bx hf
    refine r_callSi (ws' := (dO G ad d_ad1 dw ++ [])) (As := [.int x2, .int 0, .int 15]) (rest := []) C hw hl.1 kX9_in ml_X9_100 (c_X9_in l G _ x2 0 15 u4 e4) CutX.none ⟨rfl, rfl⟩ ⟨Nat.le_of_ble_eq_true rfl, Nat.le_of_ble_eq_true rfl⟩ rfl ⟨Nat.zero_le _, Nat.zero_le _⟩ rfl (Nat.le_of_ble_eq_true rfl) dX9_read_17 (fun H locs hw => ?_)
    refine lv_if_ne (tgt := 29) C.1 C.2.1 dX9_read_20 (by decide) (fun hc => ?_) (fun hc => ?_)
    · replace hf := ifn hf hc
      refine r_aload0 C hl 0 rfl dX9_read_29 ?_
      refine r_iload0 C hl 1 rfl dX9_read_30 ?_
      obtain ⟨u5, e5, hf⟩ := bx hf
      refine r_callVi (ws' := (dO G ad d_ad1 dw ++ [])) (As := [.int x1]) (rest := []) C hw hl.1 kX9_placeOf ml_X9_325 (c_X9_placeOf l G ad _ d_ad1 dw x1 u5 e5) (CutX.take dO_f CutX.none) _ (gx_h dO_o) rfl ⟨rfl, rfl⟩ ⟨Nat.le_of_ble_eq_true rfl, Nat.le_of_ble_eq_true rfl⟩ rfl ⟨Nat.zero_le _, Nat.zero_le _⟩ rfl (Nat.le_of_ble_eq_true rfl) dX9_read_31 (fun H locs hw => ?_)
      refine lv_if_ne (tgt := 45) C.1 C.2.1 dX9_read_34 (by decide) (fun hc => ?_) (fun hc => ?_)
      · replace hf := ifn hf hc
        refine r_aload0 C hl 0 rfl dX9_read_45 ?_
        refine r_aload0 C hl 0 rfl dX9_read_46 ?_
        refine r_get C hw _ (gx_h dO_o) 20 fl_X9_35 rfl dX9_read_47 ?_
        refine lv_sipush (v := 316) C.1 C.2.1 dX9_read_50 (by decide) ?_
        refine lv_bipush (v := 16) C.1 C.2.1 dX9_read_53 (by decide) ?_
        refine r_iload0 C hl 1 rfl dX9_read_55 ?_
        refine lv_imul C.1 C.2.1 dX9_read_56 ?_
        refine lv_iadd C.1 C.2.1 dX9_read_57 ?_
        refine r_iload0 C hl 2 rfl dX9_read_58 ?_
        refine lv_iadd C.1 C.2.1 dX9_read_59 ?_
        obtain ⟨v6_, e6, hf⟩ := bx hf
        refine r_iald C hw _ (gx_h dO_g20) e6 dX9_read_60 ?_
        obtain ⟨u7, e7, hf⟩ := bx hf
        refine r_callVi (ws' := (dO G ad u7.2 dw ++ [])) (As := [.int v6_]) (rest := []) C hw hl.1 kX9_good ml_X9_222 (c_X9_good l G ad _ d_ad1 dw v6_ u7 e7) (CutX.take dO_f CutX.none) _ (gx_h dO_o) rfl ⟨rfl, rfl⟩ ⟨Nat.le_of_ble_eq_true rfl, Nat.le_of_ble_eq_true rfl⟩ rfl ⟨Nat.zero_le _, Nat.zero_le _⟩ rfl (Nat.le_of_ble_eq_true rfl) dX9_read_61 (fun H locs hw => ?_)
        exact fin_i C hw (Option.some.inj hf) (fun o => o.1) (fun o => (dO G ad o.2 dw ++ [])) rfl rfl dX9_read_64
      · replace hf := ifp hf hc
        refine r_aload0 C hl 0 rfl dX9_read_37 ?_
        refine lv_iconst (v := 5) C.1 C.2.1 dX9_read_38 (by decide) ?_
        obtain ⟨u8, e8, hf⟩ := bx hf
        refine r_callVi (ws' := (dO G ad u8.2 dw ++ [])) (As := [.int 5]) (rest := []) C hw hl.1 kX9_refused ml_X9_210 (c_X9_refused l G ad _ d_ad1 dw 5 u8 e8) (CutX.take dO_f CutX.none) _ (gx_h dO_o) rfl ⟨rfl, rfl⟩ ⟨Nat.le_of_ble_eq_true rfl, Nat.le_of_ble_eq_true rfl⟩ rfl ⟨Nat.zero_le _, Nat.zero_le _⟩ rfl (Nat.le_of_ble_eq_true rfl) dX9_read_39 (fun H locs hw => ?_)
        refine lv_goto (tgt := 64) C.1 C.2.1 dX9_read_42 (by decide) ?_
        exact fin_i C hw (Option.some.inj hf) (fun o => o.1) (fun o => (dO G ad o.2 dw ++ [])) rfl rfl dX9_read_64
    · replace hf := ifp hf hc
      exact hB_23  d_ad1 hf _ _ hw _ (lv_sub hl [0] rfl)
set_option maxHeartbeats 4000000 in
set_option maxRecDepth 100000 in
theorem c_X9_same (l : Launch) (G : GG) (ad : Nat → Nat) (sz : Nat) (d_ad : Pic) (dw : Int64) (x1 : Int32) (x2 : Int32) (out : Int32 × Pic) (hf : f_X9_same d_ad x1 x2 = some out) : Met l yX9_same (.code yX9_same cX9_same 4 (some .int) :: BT) ({ frames := 2, cells := 0, slots := 0, locals := 43 }) (va_Pc [.ref (ad 99), .int x1, .int x2] (PreW G sz (dO G ad d_ad dw ++ []))) (Ans G out.1 (va_A (dO G ad d_ad dw ++ []) sz) (dO G ad out.2 dw ++ [])) 0 0 (va_A (dO G ad d_ad dw ++ []) sz) := by
  refine Met.into (by decide) (Nat.le_of_ble_eq_true rfl) ?_
  intro p e s m below meth c C hsz ls hl hw
  have hl : lv_has ls 4 [(0, .ref (ad 99)), (1, .int x1), (2, .int x2)] := hl
  clear hsz
  generalize va_A (dO G ad d_ad dw ++ []) sz = A at hw ⊢
  have hB_21 : ∀ (d_ad : Pic), b_X9_same_21 x1 x2  d_ad = some out → ∀ (H : Heap) (locs : List Loc), Wd G A s H locs (dO G ad d_ad dw ++ []) → ∀ ls : Array Slot, lv_has ls 4 [(0, .ref (ad 99))] → W p l e ({ frames := 2, cells := 0, slots := 0, locals := 43 }) s m [.ref (ad 99), .int x1, .int x2].toArray below meth c H locs 0 0 (MQ below (Ans G out.1 A (dO G ad out.2 dw ++ [])) [.ref (ad 99), .int x1, .int x2].toArray s 0 0 A) (F0 m 21 ls []) := by
    intro d_ad hf H locs hw ls hl
    unfold b_X9_same_21 at hf
    refine r_aload0 C hl 0 rfl dX9_same_21 ?_
    refine lv_iconst (v := 1) C.1 C.2.1 dX9_same_22 (by decide) ?_
    obtain ⟨u3, e3, hf⟩ := bx hf
    refine r_callVi (ws' := (dO G ad u3.2 dw ++ [])) (As := [.int 1]) (rest := []) C hw hl.1 kX9_refused ml_X9_210 (c_X9_refused l G ad _ d_ad dw 1 u3 e3) (CutX.take dO_f CutX.none) _ (gx_h dO_o) rfl ⟨rfl, rfl⟩ ⟨Nat.le_of_ble_eq_true rfl, Nat.le_of_ble_eq_true rfl⟩ rfl ⟨Nat.zero_le _, Nat.zero_le _⟩ rfl (Nat.le_of_ble_eq_true rfl) dX9_same_23 (fun H locs hw => ?_)
    exact fin_i C hw (Option.some.inj hf) (fun o => o.1) (fun o => (dO G ad o.2 dw ++ [])) rfl rfl dX9_same_26
  have hB_43 : ∀ (d_ad : Pic), b_X9_same_43 x1 x2  d_ad = some out → ∀ (H : Heap) (locs : List Loc), Wd G A s H locs (dO G ad d_ad dw ++ []) → ∀ ls : Array Slot, lv_has ls 4 [(0, .ref (ad 99))] → W p l e ({ frames := 2, cells := 0, slots := 0, locals := 43 }) s m [.ref (ad 99), .int x1, .int x2].toArray below meth c H locs 0 0 (MQ below (Ans G out.1 A (dO G ad out.2 dw ++ [])) [.ref (ad 99), .int x1, .int x2].toArray s 0 0 A) (F0 m 43 ls []) := by
    intro d_ad hf H locs hw ls hl
    unfold b_X9_same_43 at hf
    refine r_aload0 C hl 0 rfl dX9_same_43 ?_
    refine lv_iconst (v := 5) C.1 C.2.1 dX9_same_44 (by decide) ?_
    obtain ⟨u6, e6, hf⟩ := bx hf
    refine r_callVi (ws' := (dO G ad u6.2 dw ++ [])) (As := [.int 5]) (rest := []) C hw hl.1 kX9_refused ml_X9_210 (c_X9_refused l G ad _ d_ad dw 5 u6 e6) (CutX.take dO_f CutX.none) _ (gx_h dO_o) rfl ⟨rfl, rfl⟩ ⟨Nat.le_of_ble_eq_true rfl, Nat.le_of_ble_eq_true rfl⟩ rfl ⟨Nat.zero_le _, Nat.zero_le _⟩ rfl (Nat.le_of_ble_eq_true rfl) dX9_same_45 (fun H locs hw => ?_)
    exact fin_i C hw (Option.some.inj hf) (fun o => o.1) (fun o => (dO G ad o.2 dw ++ [])) rfl rfl dX9_same_48
  have hB_51 : ∀ (k51 : Pic → Int32 → Option (Int32 × Pic)) (hk51 : ∀ (d_ad : Pic) (v3 : Int32), k51 d_ad v3 = some out → ∀ (H : Heap) (locs : List Loc), Wd G A s H locs (dO G ad d_ad dw ++ []) → ∀ ls : Array Slot, lv_has ls 4 [(0, .ref (ad 99)), (1, .int x1), (2, .int x2), (3, .int v3)] → W p l e ({ frames := 2, cells := 0, slots := 0, locals := 43 }) s m [.ref (ad 99), .int x1, .int x2].toArray below meth c H locs 0 0 (MQ below (Ans G out.1 A (dO G ad out.2 dw ++ [])) [.ref (ad 99), .int x1, .int x2].toArray s 0 0 A) (F0 m 51 ls [])), ∀ (d_ad : Pic) (v3 : Int32), b_X9_same_51 x1 x2 k51 d_ad v3 = some out → ∀ (H : Heap) (locs : List Loc), Wd G A s H locs (dO G ad d_ad dw ++ []) → ∀ ls : Array Slot, lv_has ls 4 [(0, .ref (ad 99)), (1, .int x1), (2, .int x2), (3, .int v3)] → W p l e ({ frames := 2, cells := 0, slots := 0, locals := 43 }) s m [.ref (ad 99), .int x1, .int x2].toArray below meth c H locs 0 0 (MQ below (Ans G out.1 A (dO G ad out.2 dw ++ [])) [.ref (ad 99), .int x1, .int x2].toArray s 0 0 A) (F0 m 51 ls []) := by
    intro k51 hk51 d_ad v3 hf H locs hw ls hl
    unfold b_X9_same_51 at hf
    refine r_iload0 C hl 3 rfl dX9_same_51 ?_
    refine lv_bipush (v := 16) C.1 C.2.1 dX9_same_52 (by decide) ?_
    refine lv_icmp_ge (tgt := 102) C.1 C.2.1 dX9_same_54 (by decide) (fun hc => ?_) (fun hc => ?_)
    · replace hf := ifp hf hc
      refine r_aload0 C hl 0 rfl dX9_same_102 ?_
      refine lv_iconst (v := 1) C.1 C.2.1 dX9_same_103 (by decide) ?_
      obtain ⟨u8, e8, hf⟩ := bx hf
      refine r_callVi (ws' := (dO G ad u8.2 dw ++ [])) (As := [.int 1]) (rest := []) C hw hl.1 kX9_good ml_X9_222 (c_X9_good l G ad _ d_ad dw 1 u8 e8) (CutX.take dO_f CutX.none) _ (gx_h dO_o) rfl ⟨rfl, rfl⟩ ⟨Nat.le_of_ble_eq_true rfl, Nat.le_of_ble_eq_true rfl⟩ rfl ⟨Nat.zero_le _, Nat.zero_le _⟩ rfl (Nat.le_of_ble_eq_true rfl) dX9_same_104 (fun H locs hw => ?_)
      exact fin_i C hw (Option.some.inj hf) (fun o => o.1) (fun o => (dO G ad o.2 dw ++ [])) rfl rfl dX9_same_107
    · replace hf := ifn hf hc
      refine r_aload0 C hl 0 rfl dX9_same_57 ?_
      refine r_get C hw _ (gx_h dO_o) 20 fl_X9_35 rfl dX9_same_58 ?_
      refine lv_sipush (v := 316) C.1 C.2.1 dX9_same_61 (by decide) ?_
      refine lv_bipush (v := 16) C.1 C.2.1 dX9_same_64 (by decide) ?_
      refine r_iload0 C hl 1 rfl dX9_same_66 ?_
      refine lv_imul C.1 C.2.1 dX9_same_67 ?_
      refine lv_iadd C.1 C.2.1 dX9_same_68 ?_
      refine r_iload0 C hl 3 rfl dX9_same_69 ?_
      refine lv_iadd C.1 C.2.1 dX9_same_70 ?_
      obtain ⟨v9_, e9, hf⟩ := bx hf
      refine r_iald C hw _ (gx_h dO_g20) e9 dX9_same_71 ?_
      refine r_aload0 C hl 0 rfl dX9_same_72 ?_
      refine r_get C hw _ (gx_h dO_o) 20 fl_X9_35 rfl dX9_same_73 ?_
      refine lv_sipush (v := 316) C.1 C.2.1 dX9_same_76 (by decide) ?_
      refine lv_bipush (v := 16) C.1 C.2.1 dX9_same_79 (by decide) ?_
      refine r_iload0 C hl 2 rfl dX9_same_81 ?_
      refine lv_imul C.1 C.2.1 dX9_same_82 ?_
      refine lv_iadd C.1 C.2.1 dX9_same_83 ?_
      refine r_iload0 C hl 3 rfl dX9_same_84 ?_
      refine lv_iadd C.1 C.2.1 dX9_same_85 ?_
      obtain ⟨v10_, e10, hf⟩ := bx hf
      refine r_iald C hw _ (gx_h dO_g20) e10 dX9_same_86 ?_
      refine lv_icmp_eq (tgt := 96) C.1 C.2.1 dX9_same_87 (by decide) (fun hc => ?_) (fun hc => ?_)
      · replace hf := ifp hf hc
        refine r_iinc C hl 3 (v3 + 1) [(3, .int (v3 + 1)), (0, .ref (ad 99)), (1, .int x1), (2, .int x2)] rfl (iinc_e (by decide)) (by decide) rfl dX9_same_96 (fun ls hl => ?_)
        refine lv_goto (tgt := 51) C.1 C.2.1 dX9_same_99 (by decide) ?_
        exact hk51 d_ad (v3 + 1) hf _ _ hw _ (lv_sub hl [1, 2, 3, 0] rfl)
      · replace hf := ifn hf hc
        refine r_aload0 C hl 0 rfl dX9_same_90 ?_
        refine lv_iconst (v := 0) C.1 C.2.1 dX9_same_91 (by decide) ?_
        obtain ⟨u11, e11, hf⟩ := bx hf
        refine r_callVi (ws' := (dO G ad u11.2 dw ++ [])) (As := [.int 0]) (rest := []) C hw hl.1 kX9_good ml_X9_222 (c_X9_good l G ad _ d_ad dw 0 u11 e11) (CutX.take dO_f CutX.none) _ (gx_h dO_o) rfl ⟨rfl, rfl⟩ ⟨Nat.le_of_ble_eq_true rfl, Nat.le_of_ble_eq_true rfl⟩ rfl ⟨Nat.zero_le _, Nat.zero_le _⟩ rfl (Nat.le_of_ble_eq_true rfl) dX9_same_92 (fun H locs hw => ?_)
        exact fin_i C hw (Option.some.inj hf) (fun o => o.1) (fun o => (dO G ad o.2 dw ++ [])) rfl rfl dX9_same_95
  have hL_51 : ∀ n : Nat, ∀ (d_ad : Pic) (v3 : Int32), L_X9_same_51 x1 x2  n d_ad v3 = some out → ∀ (H : Heap) (locs : List Loc), Wd G A s H locs (dO G ad d_ad dw ++ []) → ∀ ls : Array Slot, lv_has ls 4 [(0, .ref (ad 99)), (1, .int x1), (2, .int x2), (3, .int v3)] → W p l e ({ frames := 2, cells := 0, slots := 0, locals := 43 }) s m [.ref (ad 99), .int x1, .int x2].toArray below meth c H locs 0 0 (MQ below (Ans G out.1 A (dO G ad out.2 dw ++ [])) [.ref (ad 99), .int x1, .int x2].toArray s 0 0 A) (F0 m 51 ls []) := by
    intro  n
    induction n with
    | zero => intro d_ad v3 hf; cases hf
    | succ n ih => exact hB_51 _ ih
  unfold f_X9_same at hf
  refine r_aload0 C hl 0 rfl dX9_same_0 ?_
  refine lv_iconst (v := 0) C.1 C.2.1 dX9_same_1 (by decide) ?_
  obtain ⟨d_ad1, e1, hf⟩ := bx hf
  refine r_put C hw _ (gx_h dO_o) 0 fp_X9_75 rfl rfl (Nat.le_of_ble_eq_true rfl) (dO G ad d_ad1 dw ++ []) (sx_h dO_o (dO_p0 e1)) dX9_same_2 (fun H locs hw => ?_)
  refine r_aload0 C hl 0 rfl dX9_same_5 ?_
  refine r_iload0 C hl 1 rfl dX9_same_6 ?_
  obtain ⟨u2, e2, hf⟩ := bx hf
  refine r_callVi (ws' := (dO G ad d_ad1 dw ++ [])) (As := [.int x1]) (rest := []) C hw hl.1 kX9_isPage ml_X9_374 (c_X9_isPage l G ad _ d_ad1 dw x1 u2 e2) (CutX.take dO_f CutX.none) _ (gx_h dO_o) rfl ⟨rfl, rfl⟩ ⟨Nat.le_of_ble_eq_true rfl, Nat.le_of_ble_eq_true rfl⟩ rfl ⟨Nat.zero_le _, Nat.zero_le _⟩ rfl (Nat.le_of_ble_eq_true rfl) dX9_same_7 (fun H locs hw => ?_)
  refine lv_if_eq (tgt := 21) C.1 C.2.1 dX9_same_10 (by decide) (fun hc => ?_) (fun hc => ?_)
  · replace hf := ifp hf hc
    exact hB_21  d_ad1 hf _ _ hw _ (lv_sub hl [0] rfl)
  · replace hf := ifn hf hc
    refine r_aload0 C hl 0 rfl dX9_same_13 ?_
    refine r_iload0 C hl 2 rfl dX9_same_14 ?_
    obtain ⟨u4, e4, hf⟩ := bx hf
    refine r_callVi (ws' := (dO G ad d_ad1 dw ++ [])) (As := [.int x2]) (rest := []) C hw hl.1 kX9_isPage ml_X9_374 (c_X9_isPage l G ad _ d_ad1 dw x2 u4 e4) (CutX.take dO_f CutX.none) _ (gx_h dO_o) rfl ⟨rfl, rfl⟩ ⟨Nat.le_of_ble_eq_true rfl, Nat.le_of_ble_eq_true rfl⟩ rfl ⟨Nat.zero_le _, Nat.zero_le _⟩ rfl (Nat.le_of_ble_eq_true rfl) dX9_same_15 (fun H locs hw => ?_)
    refine lv_if_ne (tgt := 27) C.1 C.2.1 dX9_same_18 (by decide) (fun hc => ?_) (fun hc => ?_)
    · replace hf := ifn hf hc
      refine r_aload0 C hl 0 rfl dX9_same_27 ?_
      refine r_iload0 C hl 1 rfl dX9_same_28 ?_
      obtain ⟨u5, e5, hf⟩ := bx hf
      refine r_callVi (ws' := (dO G ad d_ad1 dw ++ [])) (As := [.int x1]) (rest := []) C hw hl.1 kX9_placeOf ml_X9_325 (c_X9_placeOf l G ad _ d_ad1 dw x1 u5 e5) (CutX.take dO_f CutX.none) _ (gx_h dO_o) rfl ⟨rfl, rfl⟩ ⟨Nat.le_of_ble_eq_true rfl, Nat.le_of_ble_eq_true rfl⟩ rfl ⟨Nat.zero_le _, Nat.zero_le _⟩ rfl (Nat.le_of_ble_eq_true rfl) dX9_same_29 (fun H locs hw => ?_)
      refine lv_if_eq (tgt := 43) C.1 C.2.1 dX9_same_32 (by decide) (fun hc => ?_) (fun hc => ?_)
      · replace hf := ifp hf hc
        exact hB_43  d_ad1 hf _ _ hw _ (lv_sub hl [0] rfl)
      · replace hf := ifn hf hc
        refine r_aload0 C hl 0 rfl dX9_same_35 ?_
        refine r_iload0 C hl 2 rfl dX9_same_36 ?_
        obtain ⟨u7, e7, hf⟩ := bx hf
        refine r_callVi (ws' := (dO G ad d_ad1 dw ++ [])) (As := [.int x2]) (rest := []) C hw hl.1 kX9_placeOf ml_X9_325 (c_X9_placeOf l G ad _ d_ad1 dw x2 u7 e7) (CutX.take dO_f CutX.none) _ (gx_h dO_o) rfl ⟨rfl, rfl⟩ ⟨Nat.le_of_ble_eq_true rfl, Nat.le_of_ble_eq_true rfl⟩ rfl ⟨Nat.zero_le _, Nat.zero_le _⟩ rfl (Nat.le_of_ble_eq_true rfl) dX9_same_37 (fun H locs hw => ?_)
        refine lv_if_ne (tgt := 49) C.1 C.2.1 dX9_same_40 (by decide) (fun hc => ?_) (fun hc => ?_)
        · replace hf := ifn hf hc
          refine lv_iconst (v := 0) C.1 C.2.1 dX9_same_49 (by decide) ?_
          refine r_istore0 C hl [(3, .int 0), (0, .ref (ad 99)), (1, .int x1), (2, .int x2)] (by decide) rfl dX9_same_50 (fun ls hl => ?_)
          exact hL_51  FU d_ad1 0 hf _ _ hw _ (lv_sub hl [1, 2, 3, 0] rfl)
        · replace hf := ifp hf hc
          exact hB_43  d_ad1 hf _ _ hw _ (lv_sub hl [0] rfl)
    · replace hf := ifp hf hc
      exact hB_21  d_ad1 hf _ _ hw _ (lv_sub hl [0] rfl)
set_option maxHeartbeats 4000000 in
set_option maxRecDepth 100000 in
theorem c_X9_coldest (l : Launch) (G : GG) (ad : Nat → Nat) (sz : Nat) (d_ad : Pic) (dw : Int64) (x1 : Int32) (out : Int32 × Pic) (hf : f_X9_coldest d_ad x1 = some out) : Met l yX9_coldest (.code yX9_coldest cX9_coldest 4 (some .int) :: BT) ({ frames := 2, cells := 0, slots := 0, locals := 43 }) (va_Pc [.ref (ad 99), .int x1] (PreW G sz (dO G ad d_ad dw ++ []))) (Ans G out.1 (va_A (dO G ad d_ad dw ++ []) sz) (dO G ad out.2 dw ++ [])) 0 0 (va_A (dO G ad d_ad dw ++ []) sz) := by
  refine Met.into (by decide) (Nat.le_of_ble_eq_true rfl) ?_
  intro p e s m below meth c C hsz ls hl hw
  have hl : lv_has ls 4 [(0, .ref (ad 99)), (1, .int x1)] := hl
  clear hsz
  generalize va_A (dO G ad d_ad dw ++ []) sz = A at hw ⊢
  have hB_21 : ∀ (k21 : Pic → Int32 → Option (Int32 × Pic)) (hk21 : ∀ (d_ad : Pic) (v2 : Int32), k21 d_ad v2 = some out → ∀ (H : Heap) (locs : List Loc), Wd G A s H locs (dO G ad d_ad dw ++ []) → ∀ ls : Array Slot, lv_has ls 4 [(0, .ref (ad 99)), (1, .int x1), (2, .int v2)] → W p l e ({ frames := 2, cells := 0, slots := 0, locals := 43 }) s m [.ref (ad 99), .int x1].toArray below meth c H locs 0 0 (MQ below (Ans G out.1 A (dO G ad out.2 dw ++ [])) [.ref (ad 99), .int x1].toArray s 0 0 A) (F0 m 21 ls [])), ∀ (d_ad : Pic) (v2 : Int32), b_X9_coldest_21 x1 k21 d_ad v2 = some out → ∀ (H : Heap) (locs : List Loc), Wd G A s H locs (dO G ad d_ad dw ++ []) → ∀ ls : Array Slot, lv_has ls 4 [(0, .ref (ad 99)), (1, .int x1), (2, .int v2)] → W p l e ({ frames := 2, cells := 0, slots := 0, locals := 43 }) s m [.ref (ad 99), .int x1].toArray below meth c H locs 0 0 (MQ below (Ans G out.1 A (dO G ad out.2 dw ++ [])) [.ref (ad 99), .int x1].toArray s 0 0 A) (F0 m 21 ls []) := by
    intro k21 hk21 d_ad v2 hf H locs hw ls hl
    unfold b_X9_coldest_21 at hf
    refine r_iload0 C hl 2 rfl dX9_coldest_21 ?_
    refine r_aload0 C hl 0 rfl dX9_coldest_22 ?_
    refine r_get C hw _ (gx_h dO_o) 20 fl_X9_35 rfl dX9_coldest_23 ?_
    refine lv_sipush (v := 315) C.1 C.2.1 dX9_coldest_26 (by decide) ?_
    obtain ⟨v3_, e3, hf⟩ := bx hf
    refine r_iald C hw _ (gx_h dO_g20) e3 dX9_coldest_29 ?_
    refine lv_icmp_ge (tgt := 74) C.1 C.2.1 dX9_coldest_30 (by decide) (fun hc => ?_) (fun hc => ?_)
    · replace hf := ifp hf hc
      refine r_aload0 C hl 0 rfl dX9_coldest_74 ?_
      refine lv_bipush (v := (-2)) C.1 C.2.1 dX9_coldest_75 (by decide) ?_
      obtain ⟨u4, e4, hf⟩ := bx hf
      refine r_callVi (ws' := (dO G ad u4.2 dw ++ [])) (As := [.int (-2)]) (rest := []) C hw hl.1 kX9_good ml_X9_222 (c_X9_good l G ad _ d_ad dw (-2) u4 e4) (CutX.take dO_f CutX.none) _ (gx_h dO_o) rfl ⟨rfl, rfl⟩ ⟨Nat.le_of_ble_eq_true rfl, Nat.le_of_ble_eq_true rfl⟩ rfl ⟨Nat.zero_le _, Nat.zero_le _⟩ rfl (Nat.le_of_ble_eq_true rfl) dX9_coldest_77 (fun H locs hw => ?_)
      exact fin_i C hw (Option.some.inj hf) (fun o => o.1) (fun o => (dO G ad o.2 dw ++ [])) rfl rfl dX9_coldest_80
    · replace hf := ifn hf hc
      refine r_aload0 C hl 0 rfl dX9_coldest_33 ?_
      refine r_get C hw _ (gx_h dO_o) 20 fl_X9_35 rfl dX9_coldest_34 ?_
      refine lv_sipush (v := 285) C.1 C.2.1 dX9_coldest_37 (by decide) ?_
      refine r_iload0 C hl 2 rfl dX9_coldest_40 ?_
      refine lv_iadd C.1 C.2.1 dX9_coldest_41 ?_
      obtain ⟨v5_, e5, hf⟩ := bx hf
      refine r_iald C hw _ (gx_h dO_g20) e5 dX9_coldest_42 ?_
      refine r_istore0 C hl [(3, .int v5_), (0, .ref (ad 99)), (1, .int x1), (2, .int v2)] (by decide) rfl dX9_coldest_43 (fun ls hl => ?_)
      refine r_aload0 C hl 1 rfl dX9_coldest_44 ?_
      refine r_aload0 C hl 1 rfl dX9_coldest_45 ?_
      refine r_get C hw _ (gx_h dO_o) 20 fl_X9_35 rfl dX9_coldest_46 ?_
      refine lv_sipush (v := 225) C.1 C.2.1 dX9_coldest_49 (by decide) ?_
      refine r_iload0 C hl 0 rfl dX9_coldest_52 ?_
      refine lv_iadd C.1 C.2.1 dX9_coldest_53 ?_
      obtain ⟨v6_, e6, hf⟩ := bx hf
      refine r_iald C hw _ (gx_h dO_g20) e6 dX9_coldest_54 ?_
      obtain ⟨u7, e7, hf⟩ := bx hf
      refine r_callVi (ws' := (dO G ad d_ad dw ++ [])) (As := [.int v6_]) (rest := []) C hw hl.1 kX9_classOf ml_X9_310 (c_X9_classOf l G ad _ d_ad dw v6_ u7 e7) (CutX.take dO_f CutX.none) _ (gx_h dO_o) rfl ⟨rfl, rfl⟩ ⟨Nat.le_of_ble_eq_true rfl, Nat.le_of_ble_eq_true rfl⟩ rfl ⟨Nat.zero_le _, Nat.zero_le _⟩ rfl (Nat.le_of_ble_eq_true rfl) dX9_coldest_55 (fun H locs hw => ?_)
      refine r_iload0 C hl 2 rfl dX9_coldest_58 ?_
      refine lv_icmp_ne (tgt := 68) C.1 C.2.1 dX9_coldest_59 (by decide) (fun hc => ?_) (fun hc => ?_)
      · replace hf := ifn hf hc
        refine r_iinc C hl 3 (v2 + 1) [(2, .int (v2 + 1)), (3, .int v5_), (0, .ref (ad 99)), (1, .int x1)] rfl (iinc_e (by decide)) (by decide) rfl dX9_coldest_68 (fun ls hl => ?_)
        refine lv_goto (tgt := 21) C.1 C.2.1 dX9_coldest_71 (by decide) ?_
        exact hk21 d_ad (v2 + 1) hf _ _ hw _ (lv_sub hl [2, 3, 0] rfl)
      · replace hf := ifp hf hc
        refine r_aload0 C hl 1 rfl dX9_coldest_62 ?_
        refine r_iload0 C hl 0 rfl dX9_coldest_63 ?_
        obtain ⟨u8, e8, hf⟩ := bx hf
        refine r_callVi (ws' := (dO G ad u8.2 dw ++ [])) (As := [.int v5_]) (rest := []) C hw hl.1 kX9_good ml_X9_222 (c_X9_good l G ad _ d_ad dw v5_ u8 e8) (CutX.take dO_f CutX.none) _ (gx_h dO_o) rfl ⟨rfl, rfl⟩ ⟨Nat.le_of_ble_eq_true rfl, Nat.le_of_ble_eq_true rfl⟩ rfl ⟨Nat.zero_le _, Nat.zero_le _⟩ rfl (Nat.le_of_ble_eq_true rfl) dX9_coldest_64 (fun H locs hw => ?_)
        exact fin_i C hw (Option.some.inj hf) (fun o => o.1) (fun o => (dO G ad o.2 dw ++ [])) rfl rfl dX9_coldest_67
  have hL_21 : ∀ n : Nat, ∀ (d_ad : Pic) (v2 : Int32), L_X9_coldest_21 x1  n d_ad v2 = some out → ∀ (H : Heap) (locs : List Loc), Wd G A s H locs (dO G ad d_ad dw ++ []) → ∀ ls : Array Slot, lv_has ls 4 [(0, .ref (ad 99)), (1, .int x1), (2, .int v2)] → W p l e ({ frames := 2, cells := 0, slots := 0, locals := 43 }) s m [.ref (ad 99), .int x1].toArray below meth c H locs 0 0 (MQ below (Ans G out.1 A (dO G ad out.2 dw ++ [])) [.ref (ad 99), .int x1].toArray s 0 0 A) (F0 m 21 ls []) := by
    intro  n
    induction n with
    | zero => intro d_ad v2 hf; cases hf
    | succ n ih => exact hB_21 _ ih
  unfold f_X9_coldest at hf
  refine r_aload0 C hl 0 rfl dX9_coldest_0 ?_
  refine lv_iconst (v := 0) C.1 C.2.1 dX9_coldest_1 (by decide) ?_
  obtain ⟨d_ad1, e1, hf⟩ := bx hf
  refine r_put C hw _ (gx_h dO_o) 0 fp_X9_75 rfl rfl (Nat.le_of_ble_eq_true rfl) (dO G ad d_ad1 dw ++ []) (sx_h dO_o (dO_p0 e1)) dX9_coldest_2 (fun H locs hw => ?_)
  refine r_aload0 C hl 0 rfl dX9_coldest_5 ?_
  refine r_iload0 C hl 1 rfl dX9_coldest_6 ?_
  obtain ⟨u2, e2, hf⟩ := bx hf
  refine r_callVi (ws' := (dO G ad d_ad1 dw ++ [])) (As := [.int x1]) (rest := []) C hw hl.1 kX9_isClass ml_X9_292 (c_X9_isClass l G ad _ d_ad1 dw x1 u2 e2) (CutX.take dO_f CutX.none) _ (gx_h dO_o) rfl ⟨rfl, rfl⟩ ⟨Nat.le_of_ble_eq_true rfl, Nat.le_of_ble_eq_true rfl⟩ rfl ⟨Nat.zero_le _, Nat.zero_le _⟩ rfl (Nat.le_of_ble_eq_true rfl) dX9_coldest_7 (fun H locs hw => ?_)
  refine lv_if_ne (tgt := 19) C.1 C.2.1 dX9_coldest_10 (by decide) (fun hc => ?_) (fun hc => ?_)
  · replace hf := ifn hf hc
    refine lv_iconst (v := 0) C.1 C.2.1 dX9_coldest_19 (by decide) ?_
    refine r_istore0 C hl [(2, .int 0), (0, .ref (ad 99)), (1, .int x1)] (by decide) rfl dX9_coldest_20 (fun ls hl => ?_)
    exact hL_21  FU d_ad1 0 hf _ _ hw _ (lv_sub hl [1, 2, 0] rfl)
  · replace hf := ifp hf hc
    refine r_aload0 C hl 0 rfl dX9_coldest_13 ?_
    refine lv_iconst (v := 1) C.1 C.2.1 dX9_coldest_14 (by decide) ?_
    obtain ⟨u9, e9, hf⟩ := bx hf
    refine r_callVi (ws' := (dO G ad u9.2 dw ++ [])) (As := [.int 1]) (rest := []) C hw hl.1 kX9_refused ml_X9_210 (c_X9_refused l G ad _ d_ad1 dw 1 u9 e9) (CutX.take dO_f CutX.none) _ (gx_h dO_o) rfl ⟨rfl, rfl⟩ ⟨Nat.le_of_ble_eq_true rfl, Nat.le_of_ble_eq_true rfl⟩ rfl ⟨Nat.zero_le _, Nat.zero_le _⟩ rfl (Nat.le_of_ble_eq_true rfl) dX9_coldest_15 (fun H locs hw => ?_)
    exact fin_i C hw (Option.some.inj hf) (fun o => o.1) (fun o => (dO G ad o.2 dw ++ [])) rfl rfl dX9_coldest_18
set_option maxHeartbeats 4000000 in
set_option maxRecDepth 100000 in
theorem c_X9_next (l : Launch) (G : GG) (ad : Nat → Nat) (sz : Nat) (d_ad : Pic) (dw : Int64) (x1 : Int32) (out : Int32 × Pic) (hf : f_X9_next d_ad x1 = some out) : Met l yX9_next (.code yX9_next cX9_next 4 (some .int) :: BT) ({ frames := 4, cells := 0, slots := 0, locals := 89 }) (va_Pc [.ref (ad 99), .int x1] (PreW G sz (dO G ad d_ad dw ++ []))) (Ans G out.1 (va_A (dO G ad d_ad dw ++ []) sz) (dO G ad out.2 dw ++ [])) 0 0 (va_A (dO G ad d_ad dw ++ []) sz) := by
  refine Met.into (by decide) (Nat.le_of_ble_eq_true rfl) ?_
  intro p e s m below meth c C hsz ls hl hw
  have hl : lv_has ls 4 [(0, .ref (ad 99)), (1, .int x1)] := hl
  clear hsz
  generalize va_A (dO G ad d_ad dw ++ []) sz = A at hw ⊢
  have hB_89 : ∀ (d_ad : Pic) (t0 : Int32), b_X9_next_89 x1  d_ad t0 = some out → ∀ (H : Heap) (locs : List Loc), Wd G A s H locs (dO G ad d_ad dw ++ []) → ∀ ls : Array Slot, lv_has ls 4 [] → W p l e ({ frames := 4, cells := 0, slots := 0, locals := 89 }) s m [.ref (ad 99), .int x1].toArray below meth c H locs 0 0 (MQ below (Ans G out.1 A (dO G ad out.2 dw ++ [])) [.ref (ad 99), .int x1].toArray s 0 0 A) (F0 m 89 ls [.int t0, .ref (ad 99)]) := by
    intro d_ad t0 hf H locs hw ls hl
    unfold b_X9_next_89 at hf
    obtain ⟨u8, e8, hf⟩ := bx hf
    refine r_callVi (ws' := (dO G ad u8.2 dw ++ [])) (As := [.int t0]) (rest := []) C hw hl.1 kX9_good ml_X9_222 (c_X9_good l G ad _ d_ad dw t0 u8 e8) (CutX.take dO_f CutX.none) _ (gx_h dO_o) rfl ⟨rfl, rfl⟩ ⟨Nat.le_of_ble_eq_true rfl, Nat.le_of_ble_eq_true rfl⟩ rfl ⟨Nat.zero_le _, Nat.zero_le _⟩ rfl (Nat.le_of_ble_eq_true rfl) dX9_next_89 (fun H locs hw => ?_)
    exact fin_i C hw (Option.some.inj hf) (fun o => o.1) (fun o => (dO G ad o.2 dw ++ [])) rfl rfl dX9_next_92
  unfold f_X9_next at hf
  refine r_aload0 C hl 0 rfl dX9_next_0 ?_
  refine lv_iconst (v := 0) C.1 C.2.1 dX9_next_1 (by decide) ?_
  obtain ⟨d_ad1, e1, hf⟩ := bx hf
  refine r_put C hw _ (gx_h dO_o) 0 fp_X9_75 rfl rfl (Nat.le_of_ble_eq_true rfl) (dO G ad d_ad1 dw ++ []) (sx_h dO_o (dO_p0 e1)) dX9_next_2 (fun H locs hw => ?_)
  refine r_aload0 C hl 0 rfl dX9_next_5 ?_
  refine r_get C hw _ (gx_h dO_o) 19 fl_X9_225 rfl dX9_next_6 ?_
  refine lv_if_ne (tgt := 18) C.1 C.2.1 dX9_next_9 (by decide) (fun hc => ?_) (fun hc => ?_)
  · replace hf := ifn hf hc
    refine r_iload0 C hl 1 rfl dX9_next_18 ?_
    refine lv_iconst (v := 2) C.1 C.2.1 dX9_next_19 (by decide) ?_
    refine lv_bipush (v := 15) C.1 C.2.1 dX9_next_20 (by decide) ?_
    obtain ⟨u2, e2, hf⟩ := bx hf
    refine r_callSi (ws' := (dO G ad d_ad1 dw ++ [])) (As := [.int x1, .int 2, .int 15]) (rest := []) C hw hl.1 kX9_in ml_X9_100 (c_X9_in l G _ x1 2 15 u2 e2) CutX.none ⟨rfl, rfl⟩ ⟨Nat.le_of_ble_eq_true rfl, Nat.le_of_ble_eq_true rfl⟩ rfl ⟨Nat.zero_le _, Nat.zero_le _⟩ rfl (Nat.le_of_ble_eq_true rfl) dX9_next_22 (fun H locs hw => ?_)
    refine lv_if_ne (tgt := 34) C.1 C.2.1 dX9_next_25 (by decide) (fun hc => ?_) (fun hc => ?_)
    · replace hf := ifn hf hc
      refine r_iload0 C hl 1 rfl dX9_next_34 ?_
      refine r_aload0 C hl 0 rfl dX9_next_35 ?_
      refine r_get C hw _ (gx_h dO_o) 3 fl_X9_229 rfl dX9_next_36 ?_
      obtain ⟨u3, e3, hf⟩ := bx hf
      refine r_callSi (ws' := (dO G ad d_ad1 dw ++ [])) (As := [.int x1, .int (gS d_ad1 3)]) (rest := []) C hw hl.1 kX9_homeOf ml_X9_289 (c_X9_homeOf l G _ x1 (gS d_ad1 3) u3 e3) CutX.none ⟨rfl, rfl⟩ ⟨Nat.le_of_ble_eq_true rfl, Nat.le_of_ble_eq_true rfl⟩ rfl ⟨Nat.zero_le _, Nat.zero_le _⟩ rfl (Nat.le_of_ble_eq_true rfl) dX9_next_39 (fun H locs hw => ?_)
      refine r_istore0 C hl [(2, .int u3), (0, .ref (ad 99)), (1, .int x1)] (by decide) rfl dX9_next_42 (fun ls hl => ?_)
      refine r_aload0 C hl 1 rfl dX9_next_43 ?_
      refine r_iload0 C hl 0 rfl dX9_next_44 ?_
      refine lv_iconst (v := (-1)) C.1 C.2.1 dX9_next_45 (by decide) ?_
      obtain ⟨u4, e4, hf⟩ := bx hf
      refine r_callVi (ws' := (dO G ad d_ad1 dw ++ [])) (As := [.int u3, .int (-1)]) (rest := []) C hw hl.1 kX9_fullestOf ml_X9_346 (c_X9_fullestOf l G ad _ d_ad1 dw u3 (-1) u4 e4) (CutX.take dO_f CutX.none) _ (gx_h dO_o) rfl ⟨rfl, rfl⟩ ⟨Nat.le_of_ble_eq_true rfl, Nat.le_of_ble_eq_true rfl⟩ rfl ⟨Nat.zero_le _, Nat.zero_le _⟩ rfl (Nat.le_of_ble_eq_true rfl) dX9_next_46 (fun H locs hw => ?_)
      refine r_istore0 C hl [(3, .int u4), (2, .int u3), (0, .ref (ad 99)), (1, .int x1)] (by decide) rfl dX9_next_49 (fun ls hl => ?_)
      refine r_iload0 C hl 0 rfl dX9_next_50 ?_
      refine lv_iconst (v := (-1)) C.1 C.2.1 dX9_next_51 (by decide) ?_
      refine lv_icmp_eq (tgt := 61) C.1 C.2.1 dX9_next_52 (by decide) (fun hc => ?_) (fun hc => ?_)
      · replace hf := ifp hf hc
        refine r_aload0 C hl 2 rfl dX9_next_61 ?_
        refine r_aload0 C hl 2 rfl dX9_next_62 ?_
        obtain ⟨u5, e5, hf⟩ := bx hf
        refine r_callVi (ws' := (dO G ad d_ad1 dw ++ [])) (As := []) (rest := [.ref (ad 99)]) C hw hl.1 kX9_framesNow ml_X9_356 (c_X9_framesNow l G ad _ d_ad1 dw u5 e5) (CutX.take dO_f CutX.none) _ (gx_h dO_o) rfl ⟨rfl, rfl⟩ ⟨Nat.le_of_ble_eq_true rfl, Nat.le_of_ble_eq_true rfl⟩ rfl ⟨Nat.zero_le _, Nat.zero_le _⟩ rfl (Nat.le_of_ble_eq_true rfl) dX9_next_63 (fun H locs hw => ?_)
        refine r_iload0 C hl 1 rfl dX9_next_66 ?_
        obtain ⟨u6, e6, hf⟩ := bx hf
        refine r_callSi (ws' := (dO G ad d_ad1 dw ++ [])) (As := [.int u3]) (rest := [.int u5, .ref (ad 99)]) C hw hl.1 kX9_framesOf ml_X9_286 (c_X9_framesOf l G _ u3 u6 e6) CutX.none ⟨rfl, rfl⟩ ⟨Nat.le_of_ble_eq_true rfl, Nat.le_of_ble_eq_true rfl⟩ rfl ⟨Nat.zero_le _, Nat.zero_le _⟩ rfl (Nat.le_of_ble_eq_true rfl) dX9_next_67 (fun H locs hw => ?_)
        refine lv_iadd C.1 C.2.1 dX9_next_70 ?_
        refine r_aload0 C hl 2 rfl dX9_next_71 ?_
        refine r_get C hw _ (gx_h dO_o) 20 fl_X9_35 rfl dX9_next_72 ?_
        refine lv_iconst (v := 0) C.1 C.2.1 dX9_next_75 (by decide) ?_
        obtain ⟨v7_, e7, hf⟩ := bx hf
        refine r_iald C hw _ (gx_h dO_g20) e7 dX9_next_76 ?_
        refine lv_icmp_gt (tgt := 87) C.1 C.2.1 dX9_next_77 (by decide) (fun hc => ?_) (fun hc => ?_)
        · replace hf := ifp hf hc
          refine lv_bipush (v := (-2)) C.1 C.2.1 dX9_next_87 (by decide) ?_
          exact hB_89  d_ad1 (-2) hf _ _ hw _ (lv_sub hl [] rfl)
        · replace hf := ifn hf hc
          refine r_aload0 C hl 2 rfl dX9_next_80 ?_
          obtain ⟨u9, e9, hf⟩ := bx hf
          refine r_callVi (ws' := (dO G ad d_ad1 dw ++ [])) (As := []) (rest := [.ref (ad 99)]) C hw hl.1 kX9_freeZone ml_X9_359 (c_X9_freeZone l G ad _ d_ad1 dw u9 e9) (CutX.take dO_f CutX.none) _ (gx_h dO_o) rfl ⟨rfl, rfl⟩ ⟨Nat.le_of_ble_eq_true rfl, Nat.le_of_ble_eq_true rfl⟩ rfl ⟨Nat.zero_le _, Nat.zero_le _⟩ rfl (Nat.le_of_ble_eq_true rfl) dX9_next_81 (fun H locs hw => ?_)
          refine lv_goto (tgt := 89) C.1 C.2.1 dX9_next_84 (by decide) ?_
          exact hB_89  d_ad1 u9 hf _ _ hw _ (lv_sub hl [] rfl)
      · replace hf := ifn hf hc
        refine r_aload0 C hl 2 rfl dX9_next_55 ?_
        refine r_iload0 C hl 0 rfl dX9_next_56 ?_
        obtain ⟨u10, e10, hf⟩ := bx hf
        refine r_callVi (ws' := (dO G ad u10.2 dw ++ [])) (As := [.int u4]) (rest := []) C hw hl.1 kX9_good ml_X9_222 (c_X9_good l G ad _ d_ad1 dw u4 u10 e10) (CutX.take dO_f CutX.none) _ (gx_h dO_o) rfl ⟨rfl, rfl⟩ ⟨Nat.le_of_ble_eq_true rfl, Nat.le_of_ble_eq_true rfl⟩ rfl ⟨Nat.zero_le _, Nat.zero_le _⟩ rfl (Nat.le_of_ble_eq_true rfl) dX9_next_57 (fun H locs hw => ?_)
        exact fin_i C hw (Option.some.inj hf) (fun o => o.1) (fun o => (dO G ad o.2 dw ++ [])) rfl rfl dX9_next_60
    · replace hf := ifp hf hc
      refine r_aload0 C hl 0 rfl dX9_next_28 ?_
      refine lv_iconst (v := 2) C.1 C.2.1 dX9_next_29 (by decide) ?_
      obtain ⟨u11, e11, hf⟩ := bx hf
      refine r_callVi (ws' := (dO G ad u11.2 dw ++ [])) (As := [.int 2]) (rest := []) C hw hl.1 kX9_refused ml_X9_210 (c_X9_refused l G ad _ d_ad1 dw 2 u11 e11) (CutX.take dO_f CutX.none) _ (gx_h dO_o) rfl ⟨rfl, rfl⟩ ⟨Nat.le_of_ble_eq_true rfl, Nat.le_of_ble_eq_true rfl⟩ rfl ⟨Nat.zero_le _, Nat.zero_le _⟩ rfl (Nat.le_of_ble_eq_true rfl) dX9_next_30 (fun H locs hw => ?_)
      exact fin_i C hw (Option.some.inj hf) (fun o => o.1) (fun o => (dO G ad o.2 dw ++ [])) rfl rfl dX9_next_33
  · replace hf := ifp hf hc
    refine r_aload0 C hl 0 rfl dX9_next_12 ?_
    refine lv_iconst (v := 1) C.1 C.2.1 dX9_next_13 (by decide) ?_
    obtain ⟨u12, e12, hf⟩ := bx hf
    refine r_callVi (ws' := (dO G ad u12.2 dw ++ [])) (As := [.int 1]) (rest := []) C hw hl.1 kX9_refused ml_X9_210 (c_X9_refused l G ad _ d_ad1 dw 1 u12 e12) (CutX.take dO_f CutX.none) _ (gx_h dO_o) rfl ⟨rfl, rfl⟩ ⟨Nat.le_of_ble_eq_true rfl, Nat.le_of_ble_eq_true rfl⟩ rfl ⟨Nat.zero_le _, Nat.zero_le _⟩ rfl (Nat.le_of_ble_eq_true rfl) dX9_next_14 (fun H locs hw => ?_)
    exact fin_i C hw (Option.some.inj hf) (fun o => o.1) (fun o => (dO G ad o.2 dw ++ [])) rfl rfl dX9_next_17
set_option maxHeartbeats 4000000 in
set_option maxRecDepth 100000 in
theorem c_X9_aged (l : Launch) (G : GG) (ad : Nat → Nat) (sz : Nat) (d_ad : Pic) (dw : Int64) (x1 : Int32) (out : Int32 × Pic) (hf : f_X9_aged d_ad x1 = some out) : Met l yX9_aged (.code yX9_aged cX9_aged 2 (some .int) :: BT) ({ frames := 1, cells := 0, slots := 0, locals := 21 }) (va_Pc [.ref (ad 99), .int x1] (PreW G sz (dO G ad d_ad dw ++ []))) (Ans G out.1 (va_A (dO G ad d_ad dw ++ []) sz) (dO G ad out.2 dw ++ [])) 0 0 (va_A (dO G ad d_ad dw ++ []) sz) := by
  refine Met.into (by decide) (Nat.le_of_ble_eq_true rfl) ?_
  intro p e s m below meth c C hsz ls hl hw
  have hl : lv_has ls 2 [(0, .ref (ad 99)), (1, .int x1)] := hl
  clear hsz
  generalize va_A (dO G ad d_ad dw ++ []) sz = A at hw ⊢
  have hB_28 : ∀ (d_ad : Pic), b_X9_aged_28 x1  d_ad = some out → ∀ (H : Heap) (locs : List Loc), Wd G A s H locs (dO G ad d_ad dw ++ []) → ∀ ls : Array Slot, lv_has ls 2 [(0, .ref (ad 99))] → W p l e ({ frames := 1, cells := 0, slots := 0, locals := 21 }) s m [.ref (ad 99), .int x1].toArray below meth c H locs 0 0 (MQ below (Ans G out.1 A (dO G ad out.2 dw ++ [])) [.ref (ad 99), .int x1].toArray s 0 0 A) (F0 m 28 ls []) := by
    intro d_ad hf H locs hw ls hl
    unfold b_X9_aged_28 at hf
    refine r_aload0 C hl 0 rfl dX9_aged_28 ?_
    refine lv_iconst (v := 1) C.1 C.2.1 dX9_aged_29 (by decide) ?_
    obtain ⟨u2, e2, hf⟩ := bx hf
    refine r_callVi (ws' := (dO G ad u2.2 dw ++ [])) (As := [.int 1]) (rest := []) C hw hl.1 kX9_refused ml_X9_210 (c_X9_refused l G ad _ d_ad dw 1 u2 e2) (CutX.take dO_f CutX.none) _ (gx_h dO_o) rfl ⟨rfl, rfl⟩ ⟨Nat.le_of_ble_eq_true rfl, Nat.le_of_ble_eq_true rfl⟩ rfl ⟨Nat.zero_le _, Nat.zero_le _⟩ rfl (Nat.le_of_ble_eq_true rfl) dX9_aged_30 (fun H locs hw => ?_)
    exact fin_i C hw (Option.some.inj hf) (fun o => o.1) (fun o => (dO G ad o.2 dw ++ [])) rfl rfl dX9_aged_33
  unfold f_X9_aged at hf
  refine r_aload0 C hl 0 rfl dX9_aged_0 ?_
  refine lv_iconst (v := 0) C.1 C.2.1 dX9_aged_1 (by decide) ?_
  obtain ⟨d_ad1, e1, hf⟩ := bx hf
  refine r_put C hw _ (gx_h dO_o) 0 fp_X9_75 rfl rfl (Nat.le_of_ble_eq_true rfl) (dO G ad d_ad1 dw ++ []) (sx_h dO_o (dO_p0 e1)) dX9_aged_2 (fun H locs hw => ?_)
  refine r_aload0 C hl 0 rfl dX9_aged_5 ?_
  refine r_get C hw _ (gx_h dO_o) 19 fl_X9_225 rfl dX9_aged_6 ?_
  refine lv_if_eq (tgt := 28) C.1 C.2.1 dX9_aged_9 (by decide) (fun hc => ?_) (fun hc => ?_)
  · replace hf := ifp hf hc
    exact hB_28  d_ad1 hf _ _ hw _ (lv_sub hl [0] rfl)
  · replace hf := ifn hf hc
    refine r_iload0 C hl 1 rfl dX9_aged_12 ?_
    refine lv_if_lt (tgt := 28) C.1 C.2.1 dX9_aged_13 (by decide) (fun hc => ?_) (fun hc => ?_)
    · replace hf := ifp hf hc
      exact hB_28  d_ad1 hf _ _ hw _ (lv_sub hl [0] rfl)
    · replace hf := ifn hf hc
      refine r_iload0 C hl 1 rfl dX9_aged_16 ?_
      refine r_aload0 C hl 0 rfl dX9_aged_17 ?_
      refine r_get C hw _ (gx_h dO_o) 20 fl_X9_35 rfl dX9_aged_18 ?_
      refine lv_sipush (v := 315) C.1 C.2.1 dX9_aged_21 (by decide) ?_
      obtain ⟨v3_, e3, hf⟩ := bx hf
      refine r_iald C hw _ (gx_h dO_g20) e3 dX9_aged_24 ?_
      refine lv_icmp_lt (tgt := 34) C.1 C.2.1 dX9_aged_25 (by decide) (fun hc => ?_) (fun hc => ?_)
      · replace hf := ifp hf hc
        refine r_aload0 C hl 0 rfl dX9_aged_34 ?_
        refine r_aload0 C hl 0 rfl dX9_aged_35 ?_
        refine r_get C hw _ (gx_h dO_o) 20 fl_X9_35 rfl dX9_aged_36 ?_
        refine lv_sipush (v := 285) C.1 C.2.1 dX9_aged_39 (by decide) ?_
        refine r_iload0 C hl 1 rfl dX9_aged_42 ?_
        refine lv_iadd C.1 C.2.1 dX9_aged_43 ?_
        obtain ⟨v4_, e4, hf⟩ := bx hf
        refine r_iald C hw _ (gx_h dO_g20) e4 dX9_aged_44 ?_
        obtain ⟨u5, e5, hf⟩ := bx hf
        refine r_callVi (ws' := (dO G ad u5.2 dw ++ [])) (As := [.int v4_]) (rest := []) C hw hl.1 kX9_good ml_X9_222 (c_X9_good l G ad _ d_ad1 dw v4_ u5 e5) (CutX.take dO_f CutX.none) _ (gx_h dO_o) rfl ⟨rfl, rfl⟩ ⟨Nat.le_of_ble_eq_true rfl, Nat.le_of_ble_eq_true rfl⟩ rfl ⟨Nat.zero_le _, Nat.zero_le _⟩ rfl (Nat.le_of_ble_eq_true rfl) dX9_aged_45 (fun H locs hw => ?_)
        exact fin_i C hw (Option.some.inj hf) (fun o => o.1) (fun o => (dO G ad o.2 dw ++ [])) rfl rfl dX9_aged_48
      · replace hf := ifn hf hc
        exact hB_28  d_ad1 hf _ _ hw _ (lv_sub hl [0] rfl)
set_option maxHeartbeats 4000000 in
set_option maxRecDepth 100000 in
theorem c_X9_total (l : Launch) (G : GG) (ad : Nat → Nat) (sz : Nat) (d_ad : Pic) (dw : Int64) (x1 : Int32) (out : Int32 × Pic) (hf : f_X9_total d_ad x1 = some out) : Met l yX9_total (.code yX9_total cX9_total 2 (some .int) :: BT) ({ frames := 1, cells := 0, slots := 0, locals := 22 }) (va_Pc [.ref (ad 99), .int x1] (PreW G sz (dO G ad d_ad dw ++ []))) (Ans G out.1 (va_A (dO G ad d_ad dw ++ []) sz) (dO G ad out.2 dw ++ [])) 0 0 (va_A (dO G ad d_ad dw ++ []) sz) := by
  refine Met.into (by decide) (Nat.le_of_ble_eq_true rfl) ?_
  intro p e s m below meth c C hsz ls hl hw
  have hl : lv_has ls 2 [(0, .ref (ad 99)), (1, .int x1)] := hl
  clear hsz
  generalize va_A (dO G ad d_ad dw ++ []) sz = A at hw ⊢
  have hB_21 : ∀ (d_ad : Pic), b_X9_total_21 x1  d_ad = some out → ∀ (H : Heap) (locs : List Loc), Wd G A s H locs (dO G ad d_ad dw ++ []) → ∀ ls : Array Slot, lv_has ls 2 [(0, .ref (ad 99))] → W p l e ({ frames := 1, cells := 0, slots := 0, locals := 22 }) s m [.ref (ad 99), .int x1].toArray below meth c H locs 0 0 (MQ below (Ans G out.1 A (dO G ad out.2 dw ++ [])) [.ref (ad 99), .int x1].toArray s 0 0 A) (F0 m 21 ls []) := by
    intro d_ad hf H locs hw ls hl
    unfold b_X9_total_21 at hf
    refine r_aload0 C hl 0 rfl dX9_total_21 ?_
    refine lv_iconst (v := 1) C.1 C.2.1 dX9_total_22 (by decide) ?_
    obtain ⟨u2, e2, hf⟩ := bx hf
    refine r_callVi (ws' := (dO G ad u2.2 dw ++ [])) (As := [.int 1]) (rest := []) C hw hl.1 kX9_refused ml_X9_210 (c_X9_refused l G ad _ d_ad dw 1 u2 e2) (CutX.take dO_f CutX.none) _ (gx_h dO_o) rfl ⟨rfl, rfl⟩ ⟨Nat.le_of_ble_eq_true rfl, Nat.le_of_ble_eq_true rfl⟩ rfl ⟨Nat.zero_le _, Nat.zero_le _⟩ rfl (Nat.le_of_ble_eq_true rfl) dX9_total_23 (fun H locs hw => ?_)
    exact fin_i C hw (Option.some.inj hf) (fun o => o.1) (fun o => (dO G ad o.2 dw ++ [])) rfl rfl dX9_total_26
  unfold f_X9_total at hf
  refine r_aload0 C hl 0 rfl dX9_total_0 ?_
  refine lv_iconst (v := 0) C.1 C.2.1 dX9_total_1 (by decide) ?_
  obtain ⟨d_ad1, e1, hf⟩ := bx hf
  refine r_put C hw _ (gx_h dO_o) 0 fp_X9_75 rfl rfl (Nat.le_of_ble_eq_true rfl) (dO G ad d_ad1 dw ++ []) (sx_h dO_o (dO_p0 e1)) dX9_total_2 (fun H locs hw => ?_)
  refine r_aload0 C hl 0 rfl dX9_total_5 ?_
  refine r_get C hw _ (gx_h dO_o) 19 fl_X9_225 rfl dX9_total_6 ?_
  refine lv_if_eq (tgt := 21) C.1 C.2.1 dX9_total_9 (by decide) (fun hc => ?_) (fun hc => ?_)
  · replace hf := ifp hf hc
    exact hB_21  d_ad1 hf _ _ hw _ (lv_sub hl [0] rfl)
  · replace hf := ifn hf hc
    refine r_iload0 C hl 1 rfl dX9_total_12 ?_
    refine lv_iconst (v := 0) C.1 C.2.1 dX9_total_13 (by decide) ?_
    refine lv_iconst (v := 3) C.1 C.2.1 dX9_total_14 (by decide) ?_
    obtain ⟨u3, e3, hf⟩ := bx hf
    refine r_callSi (ws' := (dO G ad d_ad1 dw ++ [])) (As := [.int x1, .int 0, .int 3]) (rest := []) C hw hl.1 kX9_in ml_X9_100 (c_X9_in l G _ x1 0 3 u3 e3) CutX.none ⟨rfl, rfl⟩ ⟨Nat.le_of_ble_eq_true rfl, Nat.le_of_ble_eq_true rfl⟩ rfl ⟨Nat.zero_le _, Nat.zero_le _⟩ rfl (Nat.le_of_ble_eq_true rfl) dX9_total_15 (fun H locs hw => ?_)
    refine lv_if_ne (tgt := 27) C.1 C.2.1 dX9_total_18 (by decide) (fun hc => ?_) (fun hc => ?_)
    · replace hf := ifn hf hc
      refine r_aload0 C hl 0 rfl dX9_total_27 ?_
      refine r_aload0 C hl 0 rfl dX9_total_28 ?_
      refine r_get C hw _ (gx_h dO_o) 20 fl_X9_35 rfl dX9_total_29 ?_
      refine lv_iconst (v := 1) C.1 C.2.1 dX9_total_32 (by decide) ?_
      refine r_iload0 C hl 1 rfl dX9_total_33 ?_
      refine lv_iadd C.1 C.2.1 dX9_total_34 ?_
      obtain ⟨v4_, e4, hf⟩ := bx hf
      refine r_iald C hw _ (gx_h dO_g20) e4 dX9_total_35 ?_
      obtain ⟨u5, e5, hf⟩ := bx hf
      refine r_callVi (ws' := (dO G ad u5.2 dw ++ [])) (As := [.int v4_]) (rest := []) C hw hl.1 kX9_good ml_X9_222 (c_X9_good l G ad _ d_ad1 dw v4_ u5 e5) (CutX.take dO_f CutX.none) _ (gx_h dO_o) rfl ⟨rfl, rfl⟩ ⟨Nat.le_of_ble_eq_true rfl, Nat.le_of_ble_eq_true rfl⟩ rfl ⟨Nat.zero_le _, Nat.zero_le _⟩ rfl (Nat.le_of_ble_eq_true rfl) dX9_total_36 (fun H locs hw => ?_)
      exact fin_i C hw (Option.some.inj hf) (fun o => o.1) (fun o => (dO G ad o.2 dw ++ [])) rfl rfl dX9_total_39
    · replace hf := ifp hf hc
      exact hB_21  d_ad1 hf _ _ hw _ (lv_sub hl [0] rfl)
set_option maxHeartbeats 4000000 in
set_option maxRecDepth 100000 in
theorem c_X9_placed (l : Launch) (G : GG) (ad : Nat → Nat) (sz : Nat) (d_ad : Pic) (dw : Int64) (x1 : Int32) (out : Int32) (hf : f_X9_placed d_ad x1 = some out) : Met l yX9_placed (.code yX9_placed cX9_placed 4 (some .int) :: BT) ({ frames := 1, cells := 0, slots := 0, locals := 21 }) (va_Pc [.ref (ad 99), .int x1] (PreW G sz (dO G ad d_ad dw ++ []))) (Ans G out (va_A (dO G ad d_ad dw ++ []) sz) (dO G ad d_ad dw ++ [])) 0 0 (va_A (dO G ad d_ad dw ++ []) sz) := by
  refine Met.into (by decide) (Nat.le_of_ble_eq_true rfl) ?_
  intro p e s m below meth c C hsz ls hl hw
  have hl : lv_has ls 4 [(0, .ref (ad 99)), (1, .int x1)] := hl
  clear hsz
  generalize va_A (dO G ad d_ad dw ++ []) sz = A at hw ⊢
  have hB_4 : ∀ (k4 : Int32 → Int32 → Option (Int32)) (hk4 : ∀ (v2 : Int32) (v3 : Int32), k4 v2 v3 = some out → ∀ (H : Heap) (locs : List Loc), Wd G A s H locs (dO G ad d_ad dw ++ []) → ∀ ls : Array Slot, lv_has ls 4 [(0, .ref (ad 99)), (1, .int x1), (2, .int v2), (3, .int v3)] → W p l e ({ frames := 1, cells := 0, slots := 0, locals := 21 }) s m [.ref (ad 99), .int x1].toArray below meth c H locs 0 0 (MQ below (Ans G out A (dO G ad d_ad dw ++ [])) [.ref (ad 99), .int x1].toArray s 0 0 A) (F0 m 4 ls [])), ∀ (v2 : Int32) (v3 : Int32), b_X9_placed_4 d_ad x1 k4 v2 v3 = some out → ∀ (H : Heap) (locs : List Loc), Wd G A s H locs (dO G ad d_ad dw ++ []) → ∀ ls : Array Slot, lv_has ls 4 [(0, .ref (ad 99)), (1, .int x1), (2, .int v2), (3, .int v3)] → W p l e ({ frames := 1, cells := 0, slots := 0, locals := 21 }) s m [.ref (ad 99), .int x1].toArray below meth c H locs 0 0 (MQ below (Ans G out A (dO G ad d_ad dw ++ [])) [.ref (ad 99), .int x1].toArray s 0 0 A) (F0 m 4 ls []) := by
    intro k4 hk4 v2 v3 hf H locs hw ls hl
    unfold b_X9_placed_4 at hf
    refine r_iload0 C hl 3 rfl dX9_placed_4 ?_
    refine lv_bipush (v := 30) C.1 C.2.1 dX9_placed_5 (by decide) ?_
    refine lv_icmp_ge (tgt := 33) C.1 C.2.1 dX9_placed_7 (by decide) (fun hc => ?_) (fun hc => ?_)
    · replace hf := ifp hf hc
      refine r_iload0 C hl 2 rfl dX9_placed_33 ?_
      exact fin_i C hw (Option.some.inj hf) (fun o => o) (fun o => (dO G ad d_ad dw ++ [])) rfl rfl dX9_placed_34
    · replace hf := ifn hf hc
      refine r_iload0 C hl 2 rfl dX9_placed_10 ?_
      refine r_aload0 C hl 0 rfl dX9_placed_11 ?_
      refine r_iload0 C hl 3 rfl dX9_placed_12 ?_
      obtain ⟨u1, e1, hf⟩ := bx hf
      refine r_callVi (ws' := (dO G ad d_ad dw ++ [])) (As := [.int v3]) (rest := [.int v2]) C hw hl.1 kX9_placeOf ml_X9_325 (c_X9_placeOf l G ad _ d_ad dw v3 u1 e1) (CutX.take dO_f CutX.none) _ (gx_h dO_o) rfl ⟨rfl, rfl⟩ ⟨Nat.le_of_ble_eq_true rfl, Nat.le_of_ble_eq_true rfl⟩ rfl ⟨Nat.zero_le _, Nat.zero_le _⟩ rfl (Nat.le_of_ble_eq_true rfl) dX9_placed_13 (fun H locs hw => ?_)
      refine r_iload0 C hl 1 rfl dX9_placed_16 ?_
      refine lv_icmp_ne (tgt := 24) C.1 C.2.1 dX9_placed_17 (by decide) (fun hc => ?_) (fun hc => ?_)
      · replace hf := ifn hf hc
        refine lv_iconst (v := 0) C.1 C.2.1 dX9_placed_24 (by decide) ?_
        refine lv_iadd C.1 C.2.1 dX9_placed_25 ?_
        refine r_istore0 C hl [(2, .int (v2 + 0)), (0, .ref (ad 99)), (1, .int x1), (3, .int v3)] (by decide) rfl dX9_placed_26 (fun ls hl => ?_)
        refine r_iinc C hl 3 (v3 + 1) [(3, .int (v3 + 1)), (2, .int (v2 + 0)), (0, .ref (ad 99)), (1, .int x1)] rfl (iinc_e (by decide)) (by decide) rfl dX9_placed_27 (fun ls hl => ?_)
        refine lv_goto (tgt := 4) C.1 C.2.1 dX9_placed_30 (by decide) ?_
        exact hk4 (v2 + 0) (v3 + 1) hf _ _ hw _ (lv_sub hl [2, 3, 1, 0] rfl)
      · replace hf := ifp hf hc
        refine lv_iconst (v := 1) C.1 C.2.1 dX9_placed_20 (by decide) ?_
        refine lv_goto (tgt := 25) C.1 C.2.1 dX9_placed_21 (by decide) ?_
        refine lv_iadd C.1 C.2.1 dX9_placed_25 ?_
        refine r_istore0 C hl [(2, .int (v2 + 1)), (0, .ref (ad 99)), (1, .int x1), (3, .int v3)] (by decide) rfl dX9_placed_26 (fun ls hl => ?_)
        refine r_iinc C hl 3 (v3 + 1) [(3, .int (v3 + 1)), (2, .int (v2 + 1)), (0, .ref (ad 99)), (1, .int x1)] rfl (iinc_e (by decide)) (by decide) rfl dX9_placed_27 (fun ls hl => ?_)
        refine lv_goto (tgt := 4) C.1 C.2.1 dX9_placed_30 (by decide) ?_
        exact hk4 (v2 + 1) (v3 + 1) hf _ _ hw _ (lv_sub hl [2, 3, 1, 0] rfl)
  have hL_4 : ∀ n : Nat, ∀ (v2 : Int32) (v3 : Int32), L_X9_placed_4 d_ad x1  n v2 v3 = some out → ∀ (H : Heap) (locs : List Loc), Wd G A s H locs (dO G ad d_ad dw ++ []) → ∀ ls : Array Slot, lv_has ls 4 [(0, .ref (ad 99)), (1, .int x1), (2, .int v2), (3, .int v3)] → W p l e ({ frames := 1, cells := 0, slots := 0, locals := 21 }) s m [.ref (ad 99), .int x1].toArray below meth c H locs 0 0 (MQ below (Ans G out A (dO G ad d_ad dw ++ [])) [.ref (ad 99), .int x1].toArray s 0 0 A) (F0 m 4 ls []) := by
    intro  n
    induction n with
    | zero => intro v2 v3 hf; cases hf
    | succ n ih => exact hB_4 _ ih
  unfold f_X9_placed at hf
  refine lv_iconst (v := 0) C.1 C.2.1 dX9_placed_0 (by decide) ?_
  refine r_istore0 C hl [(2, .int 0), (0, .ref (ad 99)), (1, .int x1)] (by decide) rfl dX9_placed_1 (fun ls hl => ?_)
  refine lv_iconst (v := 0) C.1 C.2.1 dX9_placed_2 (by decide) ?_
  refine r_istore0 C hl [(3, .int 0), (2, .int 0), (0, .ref (ad 99)), (1, .int x1)] (by decide) rfl dX9_placed_3 (fun ls hl => ?_)
  exact hL_4  FU 0 0 hf _ _ hw _ (lv_sub hl [2, 3, 1, 0] rfl)
set_option maxHeartbeats 4000000 in
set_option maxRecDepth 100000 in
theorem c_X9_sizesTogether (l : Launch) (G : GG) (ad : Nat → Nat) (sz : Nat) (d_ad : Pic) (dw : Int64)  (out : Int32) (hf : f_X9_sizesTogether d_ad = some out) : Met l yX9_sizesTogether (.code yX9_sizesTogether cX9_sizesTogether 3 (some .int) :: BT) ({ frames := 1, cells := 0, slots := 0, locals := 21 }) (va_Pc [.ref (ad 99)] (PreW G sz (dO G ad d_ad dw ++ []))) (Ans G out (va_A (dO G ad d_ad dw ++ []) sz) (dO G ad d_ad dw ++ [])) 0 0 (va_A (dO G ad d_ad dw ++ []) sz) := by
  refine Met.into (by decide) (Nat.le_of_ble_eq_true rfl) ?_
  intro p e s m below meth c C hsz ls hl hw
  have hl : lv_has ls 3 [(0, .ref (ad 99))] := hl
  clear hsz
  generalize va_A (dO G ad d_ad dw ++ []) sz = A at hw ⊢
  have hB_4 : ∀ (k4 : Int32 → Int32 → Option (Int32)) (hk4 : ∀ (v1 : Int32) (v2 : Int32), k4 v1 v2 = some out → ∀ (H : Heap) (locs : List Loc), Wd G A s H locs (dO G ad d_ad dw ++ []) → ∀ ls : Array Slot, lv_has ls 3 [(0, .ref (ad 99)), (1, .int v1), (2, .int v2)] → W p l e ({ frames := 1, cells := 0, slots := 0, locals := 21 }) s m [.ref (ad 99)].toArray below meth c H locs 0 0 (MQ below (Ans G out A (dO G ad d_ad dw ++ [])) [.ref (ad 99)].toArray s 0 0 A) (F0 m 4 ls [])), ∀ (v1 : Int32) (v2 : Int32), b_X9_sizesTogether_4 d_ad k4 v1 v2 = some out → ∀ (H : Heap) (locs : List Loc), Wd G A s H locs (dO G ad d_ad dw ++ []) → ∀ ls : Array Slot, lv_has ls 3 [(0, .ref (ad 99)), (1, .int v1), (2, .int v2)] → W p l e ({ frames := 1, cells := 0, slots := 0, locals := 21 }) s m [.ref (ad 99)].toArray below meth c H locs 0 0 (MQ below (Ans G out A (dO G ad d_ad dw ++ [])) [.ref (ad 99)].toArray s 0 0 A) (F0 m 4 ls []) := by
    intro k4 hk4 v1 v2 hf H locs hw ls hl
    unfold b_X9_sizesTogether_4 at hf
    refine r_iload0 C hl 2 rfl dX9_sizesTogether_4 ?_
    refine lv_bipush (v := 30) C.1 C.2.1 dX9_sizesTogether_5 (by decide) ?_
    refine lv_icmp_ge (tgt := 42) C.1 C.2.1 dX9_sizesTogether_7 (by decide) (fun hc => ?_) (fun hc => ?_)
    · replace hf := ifp hf hc
      refine r_iload0 C hl 1 rfl dX9_sizesTogether_42 ?_
      exact fin_i C hw (Option.some.inj hf) (fun o => o) (fun o => (dO G ad d_ad dw ++ [])) rfl rfl dX9_sizesTogether_43
    · replace hf := ifn hf hc
      refine r_iload0 C hl 1 rfl dX9_sizesTogether_10 ?_
      refine r_aload0 C hl 0 rfl dX9_sizesTogether_11 ?_
      refine r_iload0 C hl 2 rfl dX9_sizesTogether_12 ?_
      obtain ⟨u1, e1, hf⟩ := bx hf
      refine r_callVi (ws' := (dO G ad d_ad dw ++ [])) (As := [.int v2]) (rest := [.int v1]) C hw hl.1 kX9_placeOf ml_X9_325 (c_X9_placeOf l G ad _ d_ad dw v2 u1 e1) (CutX.take dO_f CutX.none) _ (gx_h dO_o) rfl ⟨rfl, rfl⟩ ⟨Nat.le_of_ble_eq_true rfl, Nat.le_of_ble_eq_true rfl⟩ rfl ⟨Nat.zero_le _, Nat.zero_le _⟩ rfl (Nat.le_of_ble_eq_true rfl) dX9_sizesTogether_13 (fun H locs hw => ?_)
      refine lv_iconst (v := 2) C.1 C.2.1 dX9_sizesTogether_16 (by decide) ?_
      refine lv_icmp_ne (tgt := 33) C.1 C.2.1 dX9_sizesTogether_17 (by decide) (fun hc => ?_) (fun hc => ?_)
      · replace hf := ifn hf hc
        refine lv_iconst (v := 0) C.1 C.2.1 dX9_sizesTogether_33 (by decide) ?_
        refine lv_iadd C.1 C.2.1 dX9_sizesTogether_34 ?_
        refine r_istore0 C hl [(1, .int (v1 + 0)), (0, .ref (ad 99)), (2, .int v2)] (by decide) rfl dX9_sizesTogether_35 (fun ls hl => ?_)
        refine r_iinc C hl 2 (v2 + 1) [(2, .int (v2 + 1)), (1, .int (v1 + 0)), (0, .ref (ad 99))] rfl (iinc_e (by decide)) (by decide) rfl dX9_sizesTogether_36 (fun ls hl => ?_)
        refine lv_goto (tgt := 4) C.1 C.2.1 dX9_sizesTogether_39 (by decide) ?_
        exact hk4 (v1 + 0) (v2 + 1) hf _ _ hw _ (lv_sub hl [2, 1, 0] rfl)
      · replace hf := ifp hf hc
        refine r_aload0 C hl 0 rfl dX9_sizesTogether_20 ?_
        refine r_get C hw _ (gx_h dO_o) 20 fl_X9_35 rfl dX9_sizesTogether_21 ?_
        refine lv_sipush (v := 195) C.1 C.2.1 dX9_sizesTogether_24 (by decide) ?_
        refine r_iload0 C hl 2 rfl dX9_sizesTogether_27 ?_
        refine lv_iadd C.1 C.2.1 dX9_sizesTogether_28 ?_
        obtain ⟨v2_, e2, hf⟩ := bx hf
        refine r_iald C hw _ (gx_h dO_g20) e2 dX9_sizesTogether_29 ?_
        refine lv_goto (tgt := 34) C.1 C.2.1 dX9_sizesTogether_30 (by decide) ?_
        refine lv_iadd C.1 C.2.1 dX9_sizesTogether_34 ?_
        refine r_istore0 C hl [(1, .int (v1 + v2_)), (0, .ref (ad 99)), (2, .int v2)] (by decide) rfl dX9_sizesTogether_35 (fun ls hl => ?_)
        refine r_iinc C hl 2 (v2 + 1) [(2, .int (v2 + 1)), (1, .int (v1 + v2_)), (0, .ref (ad 99))] rfl (iinc_e (by decide)) (by decide) rfl dX9_sizesTogether_36 (fun ls hl => ?_)
        refine lv_goto (tgt := 4) C.1 C.2.1 dX9_sizesTogether_39 (by decide) ?_
        exact hk4 (v1 + v2_) (v2 + 1) hf _ _ hw _ (lv_sub hl [2, 1, 0] rfl)
  have hL_4 : ∀ n : Nat, ∀ (v1 : Int32) (v2 : Int32), L_X9_sizesTogether_4 d_ad  n v1 v2 = some out → ∀ (H : Heap) (locs : List Loc), Wd G A s H locs (dO G ad d_ad dw ++ []) → ∀ ls : Array Slot, lv_has ls 3 [(0, .ref (ad 99)), (1, .int v1), (2, .int v2)] → W p l e ({ frames := 1, cells := 0, slots := 0, locals := 21 }) s m [.ref (ad 99)].toArray below meth c H locs 0 0 (MQ below (Ans G out A (dO G ad d_ad dw ++ [])) [.ref (ad 99)].toArray s 0 0 A) (F0 m 4 ls []) := by
    intro  n
    induction n with
    | zero => intro v1 v2 hf; cases hf
    | succ n ih => exact hB_4 _ ih
  unfold f_X9_sizesTogether at hf
  refine lv_iconst (v := 0) C.1 C.2.1 dX9_sizesTogether_0 (by decide) ?_
  refine r_istore0 C hl [(1, .int 0), (0, .ref (ad 99))] (by decide) rfl dX9_sizesTogether_1 (fun ls hl => ?_)
  refine lv_iconst (v := 0) C.1 C.2.1 dX9_sizesTogether_2 (by decide) ?_
  refine r_istore0 C hl [(2, .int 0), (1, .int 0), (0, .ref (ad 99))] (by decide) rfl dX9_sizesTogether_3 (fun ls hl => ?_)
  exact hL_4  FU 0 0 hf _ _ hw _ (lv_sub hl [2, 1, 0] rfl)
