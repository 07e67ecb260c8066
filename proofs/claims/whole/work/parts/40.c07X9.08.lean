set_option maxHeartbeats 4000000 in
set_option maxRecDepth 100000 in
theorem c_X9_store (l : Launch) (G : GG) (ad : Nat → Nat) (sz : Nat) (d_ad : Pic) (dw : Int64) (x1 : Int32) (x2 : Int32) (out : Int32 × Pic) (hf : f_X9_store d_ad x1 x2 = some out) : Met l yX9_store (.code yX9_store cX9_store 3 (some .int) :: BT) ({ frames := 6, cells := 0, slots := 0, locals := 135 }) (va_Pc [.ref (ad 99), .int x1, .int x2] (PreW G sz (dO G ad d_ad dw ++ []))) (Ans G out.1 (va_A (dO G ad d_ad dw ++ []) sz) (dO G ad out.2 dw ++ [])) 0 0 (va_A (dO G ad d_ad dw ++ []) sz) := by
  refine Met.into (by decide) (Nat.le_of_ble_eq_true rfl) ?_
  intro p e s m below meth c C hsz ls hl hw
  have hl : lv_has ls 3 [(0, .ref (ad 99)), (1, .int x1), (2, .int x2)] := hl
  clear hsz
  generalize va_A (dO G ad d_ad dw ++ []) sz = A at hw ⊢
  have hB_21 : ∀ (d_ad : Pic), b_X9_store_21 x1 x2  d_ad = some out → ∀ (H : Heap) (locs : List Loc), Wd G A s H locs (dO G ad d_ad dw ++ []) → ∀ ls : Array Slot, lv_has ls 3 [(0, .ref (ad 99))] → W p l e ({ frames := 6, cells := 0, slots := 0, locals := 135 }) s m [.ref (ad 99), .int x1, .int x2].toArray below meth c H locs 0 0 (MQ below (Ans G out.1 A (dO G ad out.2 dw ++ [])) [.ref (ad 99), .int x1, .int x2].toArray s 0 0 A) (F0 m 21 ls []) := by
    intro d_ad hf H locs hw ls hl
    unfold b_X9_store_21 at hf
    refine r_aload0 C hl 0 rfl dX9_store_21 ?_
    refine lv_iconst (v := 1) C.1 C.2.1 dX9_store_22 (by decide) ?_
    obtain ⟨u3, e3, hf⟩ := bx hf
    refine r_callVi (ws' := (dO G ad u3.2 dw ++ [])) (As := [.int 1]) (rest := []) C hw hl.1 kX9_refused ml_X9_210 (c_X9_refused l G ad _ d_ad dw 1 u3 e3) (CutX.take dO_f CutX.none) _ (gx_h dO_o) rfl ⟨rfl, rfl⟩ ⟨Nat.le_of_ble_eq_true rfl, Nat.le_of_ble_eq_true rfl⟩ rfl ⟨Nat.zero_le _, Nat.zero_le _⟩ rfl (Nat.le_of_ble_eq_true rfl) dX9_store_23 (fun H locs hw => ?_)
    exact fin_i C hw (Option.some.inj hf) (fun o => o.1) (fun o => (dO G ad o.2 dw ++ [])) rfl rfl dX9_store_26
  unfold f_X9_store at hf
  refine r_aload0 C hl 0 rfl dX9_store_0 ?_
  refine lv_iconst (v := 0) C.1 C.2.1 dX9_store_1 (by decide) ?_
  obtain ⟨d_ad1, e1, hf⟩ := bx hf
  refine r_put C hw _ (gx_h dO_o) 0 fp_X9_75 rfl rfl (Nat.le_of_ble_eq_true rfl) (dO G ad d_ad1 dw ++ []) (sx_h dO_o (dO_p0 e1)) dX9_store_2 (fun H locs hw => ?_)
  refine r_aload0 C hl 0 rfl dX9_store_5 ?_
  refine r_iload0 C hl 1 rfl dX9_store_6 ?_
  obtain ⟨u2, e2, hf⟩ := bx hf
  refine r_callVi (ws' := (dO G ad d_ad1 dw ++ [])) (As := [.int x1]) (rest := []) C hw hl.1 kX9_isPage ml_X9_374 (c_X9_isPage l G ad _ d_ad1 dw x1 u2 e2) (CutX.take dO_f CutX.none) _ (gx_h dO_o) rfl ⟨rfl, rfl⟩ ⟨Nat.le_of_ble_eq_true rfl, Nat.le_of_ble_eq_true rfl⟩ rfl ⟨Nat.zero_le _, Nat.zero_le _⟩ rfl (Nat.le_of_ble_eq_true rfl) dX9_store_7 (fun H locs hw => ?_)
  refine lv_if_eq (tgt := 21) C.1 C.2.1 dX9_store_10 (by decide) (fun hc => ?_) (fun hc => ?_)
  · replace hf := ifp hf hc
    exact hB_21  d_ad1 hf _ _ hw _ (lv_sub hl [0] rfl)
  · replace hf := ifn hf hc
    refine r_aload0 C hl 0 rfl dX9_store_13 ?_
    refine r_iload0 C hl 2 rfl dX9_store_14 ?_
    obtain ⟨u4, e4, hf⟩ := bx hf
    refine r_callVi (ws' := (dO G ad d_ad1 dw ++ [])) (As := [.int x2]) (rest := []) C hw hl.1 kX9_isData ml_X9_271 (c_X9_isData l G ad _ d_ad1 dw x2 u4 e4) (CutX.take dO_f CutX.none) _ (gx_h dO_o) rfl ⟨rfl, rfl⟩ ⟨Nat.le_of_ble_eq_true rfl, Nat.le_of_ble_eq_true rfl⟩ rfl ⟨Nat.zero_le _, Nat.zero_le _⟩ rfl (Nat.le_of_ble_eq_true rfl) dX9_store_15 (fun H locs hw => ?_)
    refine lv_if_ne (tgt := 27) C.1 C.2.1 dX9_store_18 (by decide) (fun hc => ?_) (fun hc => ?_)
    · replace hf := ifn hf hc
      refine r_aload0 C hl 0 rfl dX9_store_27 ?_
      obtain ⟨u5, e5, hf⟩ := bx hf
      refine r_callVv (ws' := (dO G ad u5 dw ++ [])) (As := []) (rest := []) C hw hl.1 kX9_remembers ml_X9_427 (c_X9_remembers l G ad _ d_ad1 dw u5 e5) (CutX.take dO_f CutX.none) _ (gx_h dO_o) rfl ⟨rfl, rfl⟩ ⟨Nat.le_of_ble_eq_true rfl, Nat.le_of_ble_eq_true rfl⟩ rfl ⟨Nat.zero_le _, Nat.zero_le _⟩ rfl (Nat.le_of_ble_eq_true rfl) dX9_store_28 (fun H locs hw => ?_)
      refine r_aload0 C hl 0 rfl dX9_store_31 ?_
      refine r_aload0 C hl 0 rfl dX9_store_32 ?_
      refine r_iload0 C hl 1 rfl dX9_store_33 ?_
      refine r_iload0 C hl 2 rfl dX9_store_34 ?_
      obtain ⟨u6, e6, hf⟩ := bx hf
      refine r_callVi (ws' := (dO G ad u6.2 dw ++ [])) (As := [.int x1, .int x2]) (rest := [.ref (ad 99)]) C hw hl.1 kX9_stores ml_X9_410 (c_X9_stores l G ad _ u5 dw x1 x2 u6 e6) (CutX.take dO_f CutX.none) _ (gx_h dO_o) rfl ⟨rfl, rfl⟩ ⟨Nat.le_of_ble_eq_true rfl, Nat.le_of_ble_eq_true rfl⟩ rfl ⟨Nat.zero_le _, Nat.zero_le _⟩ rfl (Nat.le_of_ble_eq_true rfl) dX9_store_35 (fun H locs hw => ?_)
      obtain ⟨u7, e7, hf⟩ := bx hf
      refine r_callVi (ws' := (dO G ad u7.2 dw ++ [])) (As := [.int u6.1]) (rest := []) C hw hl.1 kX9_good ml_X9_222 (c_X9_good l G ad _ u6.2 dw u6.1 u7 e7) (CutX.take dO_f CutX.none) _ (gx_h dO_o) rfl ⟨rfl, rfl⟩ ⟨Nat.le_of_ble_eq_true rfl, Nat.le_of_ble_eq_true rfl⟩ rfl ⟨Nat.zero_le _, Nat.zero_le _⟩ rfl (Nat.le_of_ble_eq_true rfl) dX9_store_38 (fun H locs hw => ?_)
      exact fin_i C hw (Option.some.inj hf) (fun o => o.1) (fun o => (dO G ad o.2 dw ++ [])) rfl rfl dX9_store_41
    · replace hf := ifp hf hc
      exact hB_21  d_ad1 hf _ _ hw _ (lv_sub hl [0] rfl)
set_option maxHeartbeats 4000000 in
set_option maxRecDepth 100000 in
theorem c_X9_load (l : Launch) (G : GG) (ad : Nat → Nat) (sz : Nat) (d_ad : Pic) (dw : Int64) (x1 : Int32) (out : Int32 × Pic) (hf : f_X9_load d_ad x1 = some out) : Met l yX9_load (.code yX9_load cX9_load 2 (some .int) :: BT) ({ frames := 3, cells := 0, slots := 0, locals := 66 }) (va_Pc [.ref (ad 99), .int x1] (PreW G sz (dO G ad d_ad dw ++ []))) (Ans G out.1 (va_A (dO G ad d_ad dw ++ []) sz) (dO G ad out.2 dw ++ [])) 0 0 (va_A (dO G ad d_ad dw ++ []) sz) := by
  refine Met.into (by decide) (Nat.le_of_ble_eq_true rfl) ?_
  intro p e s m below meth c C hsz ls hl hw
  have hl : lv_has ls 2 [(0, .ref (ad 99)), (1, .int x1)] := hl
  clear hsz
  generalize va_A (dO G ad d_ad dw ++ []) sz = A at hw ⊢
  unfold f_X9_load at hf
  refine r_aload0 C hl 0 rfl dX9_load_0 ?_
  refine lv_iconst (v := 0) C.1 C.2.1 dX9_load_1 (by decide) ?_
  obtain ⟨d_ad1, e1, hf⟩ := bx hf
  refine r_put C hw _ (gx_h dO_o) 0 fp_X9_75 rfl rfl (Nat.le_of_ble_eq_true rfl) (dO G ad d_ad1 dw ++ []) (sx_h dO_o (dO_p0 e1)) dX9_load_2 (fun H locs hw => ?_)
  refine r_aload0 C hl 0 rfl dX9_load_5 ?_
  refine r_iload0 C hl 1 rfl dX9_load_6 ?_
  obtain ⟨u2, e2, hf⟩ := bx hf
  refine r_callVi (ws' := (dO G ad d_ad1 dw ++ [])) (As := [.int x1]) (rest := []) C hw hl.1 kX9_isPage ml_X9_374 (c_X9_isPage l G ad _ d_ad1 dw x1 u2 e2) (CutX.take dO_f CutX.none) _ (gx_h dO_o) rfl ⟨rfl, rfl⟩ ⟨Nat.le_of_ble_eq_true rfl, Nat.le_of_ble_eq_true rfl⟩ rfl ⟨Nat.zero_le _, Nat.zero_le _⟩ rfl (Nat.le_of_ble_eq_true rfl) dX9_load_7 (fun H locs hw => ?_)
  refine lv_if_ne (tgt := 19) C.1 C.2.1 dX9_load_10 (by decide) (fun hc => ?_) (fun hc => ?_)
  · replace hf := ifn hf hc
    refine r_aload0 C hl 0 rfl dX9_load_19 ?_
    refine r_iload0 C hl 1 rfl dX9_load_20 ?_
    obtain ⟨u3, e3, hf⟩ := bx hf
    refine r_callVi (ws' := (dO G ad d_ad1 dw ++ [])) (As := [.int x1]) (rest := []) C hw hl.1 kX9_placeOf ml_X9_325 (c_X9_placeOf l G ad _ d_ad1 dw x1 u3 e3) (CutX.take dO_f CutX.none) _ (gx_h dO_o) rfl ⟨rfl, rfl⟩ ⟨Nat.le_of_ble_eq_true rfl, Nat.le_of_ble_eq_true rfl⟩ rfl ⟨Nat.zero_le _, Nat.zero_le _⟩ rfl (Nat.le_of_ble_eq_true rfl) dX9_load_21 (fun H locs hw => ?_)
    refine lv_if_ne (tgt := 33) C.1 C.2.1 dX9_load_24 (by decide) (fun hc => ?_) (fun hc => ?_)
    · replace hf := ifn hf hc
      refine r_aload0 C hl 0 rfl dX9_load_33 ?_
      obtain ⟨u4, e4, hf⟩ := bx hf
      refine r_callVv (ws' := (dO G ad u4 dw ++ [])) (As := []) (rest := []) C hw hl.1 kX9_remembers ml_X9_427 (c_X9_remembers l G ad _ d_ad1 dw u4 e4) (CutX.take dO_f CutX.none) _ (gx_h dO_o) rfl ⟨rfl, rfl⟩ ⟨Nat.le_of_ble_eq_true rfl, Nat.le_of_ble_eq_true rfl⟩ rfl ⟨Nat.zero_le _, Nat.zero_le _⟩ rfl (Nat.le_of_ble_eq_true rfl) dX9_load_34 (fun H locs hw => ?_)
      refine r_aload0 C hl 0 rfl dX9_load_37 ?_
      refine r_iload0 C hl 1 rfl dX9_load_38 ?_
      obtain ⟨u5, e5, hf⟩ := bx hf
      refine r_callVv (ws' := (dO G ad u5 dw ++ [])) (As := [.int x1]) (rest := []) C hw hl.1 kX9_loads ml_X9_417 (c_X9_loads l G ad _ u4 dw x1 u5 e5) (CutX.take dO_f CutX.none) _ (gx_h dO_o) rfl ⟨rfl, rfl⟩ ⟨Nat.le_of_ble_eq_true rfl, Nat.le_of_ble_eq_true rfl⟩ rfl ⟨Nat.zero_le _, Nat.zero_le _⟩ rfl (Nat.le_of_ble_eq_true rfl) dX9_load_39 (fun H locs hw => ?_)
      refine r_aload0 C hl 0 rfl dX9_load_42 ?_
      refine r_aload0 C hl 0 rfl dX9_load_43 ?_
      refine r_iload0 C hl 1 rfl dX9_load_44 ?_
      obtain ⟨u6, e6, hf⟩ := bx hf
      refine r_callVi (ws' := (dO G ad u5 dw ++ [])) (As := [.int x1]) (rest := [.ref (ad 99)]) C hw hl.1 kX9_placeOf ml_X9_325 (c_X9_placeOf l G ad _ u5 dw x1 u6 e6) (CutX.take dO_f CutX.none) _ (gx_h dO_o) rfl ⟨rfl, rfl⟩ ⟨Nat.le_of_ble_eq_true rfl, Nat.le_of_ble_eq_true rfl⟩ rfl ⟨Nat.zero_le _, Nat.zero_le _⟩ rfl (Nat.le_of_ble_eq_true rfl) dX9_load_45 (fun H locs hw => ?_)
      obtain ⟨u7, e7, hf⟩ := bx hf
      refine r_callVi (ws' := (dO G ad u7.2 dw ++ [])) (As := [.int u6]) (rest := []) C hw hl.1 kX9_good ml_X9_222 (c_X9_good l G ad _ u5 dw u6 u7 e7) (CutX.take dO_f CutX.none) _ (gx_h dO_o) rfl ⟨rfl, rfl⟩ ⟨Nat.le_of_ble_eq_true rfl, Nat.le_of_ble_eq_true rfl⟩ rfl ⟨Nat.zero_le _, Nat.zero_le _⟩ rfl (Nat.le_of_ble_eq_true rfl) dX9_load_48 (fun H locs hw => ?_)
      exact fin_i C hw (Option.some.inj hf) (fun o => o.1) (fun o => (dO G ad o.2 dw ++ [])) rfl rfl dX9_load_51
    · replace hf := ifp hf hc
      refine r_aload0 C hl 0 rfl dX9_load_27 ?_
      refine lv_iconst (v := 5) C.1 C.2.1 dX9_load_28 (by decide) ?_
      obtain ⟨u8, e8, hf⟩ := bx hf
      refine r_callVi (ws' := (dO G ad u8.2 dw ++ [])) (As := [.int 5]) (rest := []) C hw hl.1 kX9_refused ml_X9_210 (c_X9_refused l G ad _ d_ad1 dw 5 u8 e8) (CutX.take dO_f CutX.none) _ (gx_h dO_o) rfl ⟨rfl, rfl⟩ ⟨Nat.le_of_ble_eq_true rfl, Nat.le_of_ble_eq_true rfl⟩ rfl ⟨Nat.zero_le _, Nat.zero_le _⟩ rfl (Nat.le_of_ble_eq_true rfl) dX9_load_29 (fun H locs hw => ?_)
      exact fin_i C hw (Option.some.inj hf) (fun o => o.1) (fun o => (dO G ad o.2 dw ++ [])) rfl rfl dX9_load_32
  · replace hf := ifp hf hc
    refine r_aload0 C hl 0 rfl dX9_load_13 ?_
    refine lv_iconst (v := 1) C.1 C.2.1 dX9_load_14 (by decide) ?_
    obtain ⟨u9, e9, hf⟩ := bx hf
    refine r_callVi (ws' := (dO G ad u9.2 dw ++ [])) (As := [.int 1]) (rest := []) C hw hl.1 kX9_refused ml_X9_210 (c_X9_refused l G ad _ d_ad1 dw 1 u9 e9) (CutX.take dO_f CutX.none) _ (gx_h dO_o) rfl ⟨rfl, rfl⟩ ⟨Nat.le_of_ble_eq_true rfl, Nat.le_of_ble_eq_true rfl⟩ rfl ⟨Nat.zero_le _, Nat.zero_le _⟩ rfl (Nat.le_of_ble_eq_true rfl) dX9_load_15 (fun H locs hw => ?_)
    exact fin_i C hw (Option.some.inj hf) (fun o => o.1) (fun o => (dO G ad o.2 dw ++ [])) rfl rfl dX9_load_18
set_option maxHeartbeats 4000000 in
set_option maxRecDepth 100000 in
theorem c_X9_drop (l : Launch) (G : GG) (ad : Nat → Nat) (sz : Nat) (d_ad : Pic) (dw : Int64) (x1 : Int32) (out : Int32 × Pic) (hf : f_X9_drop d_ad x1 = some out) : Met l yX9_drop (.code yX9_drop cX9_drop 3 (some .int) :: BT) ({ frames := 4, cells := 0, slots := 0, locals := 87 }) (va_Pc [.ref (ad 99), .int x1] (PreW G sz (dO G ad d_ad dw ++ []))) (Ans G out.1 (va_A (dO G ad d_ad dw ++ []) sz) (dO G ad out.2 dw ++ [])) 0 0 (va_A (dO G ad d_ad dw ++ []) sz) := by
  refine Met.into (by decide) (Nat.le_of_ble_eq_true rfl) ?_
  intro p e s m below meth c C hsz ls hl hw
  have hl : lv_has ls 3 [(0, .ref (ad 99)), (1, .int x1)] := hl
  clear hsz
  generalize va_A (dO G ad d_ad dw ++ []) sz = A at hw ⊢
  unfold f_X9_drop at hf
  refine r_aload0 C hl 0 rfl dX9_drop_0 ?_
  refine lv_iconst (v := 0) C.1 C.2.1 dX9_drop_1 (by decide) ?_
  obtain ⟨d_ad1, e1, hf⟩ := bx hf
  refine r_put C hw _ (gx_h dO_o) 0 fp_X9_75 rfl rfl (Nat.le_of_ble_eq_true rfl) (dO G ad d_ad1 dw ++ []) (sx_h dO_o (dO_p0 e1)) dX9_drop_2 (fun H locs hw => ?_)
  refine r_aload0 C hl 0 rfl dX9_drop_5 ?_
  refine r_iload0 C hl 1 rfl dX9_drop_6 ?_
  obtain ⟨u2, e2, hf⟩ := bx hf
  refine r_callVi (ws' := (dO G ad d_ad1 dw ++ [])) (As := [.int x1]) (rest := []) C hw hl.1 kX9_isPage ml_X9_374 (c_X9_isPage l G ad _ d_ad1 dw x1 u2 e2) (CutX.take dO_f CutX.none) _ (gx_h dO_o) rfl ⟨rfl, rfl⟩ ⟨Nat.le_of_ble_eq_true rfl, Nat.le_of_ble_eq_true rfl⟩ rfl ⟨Nat.zero_le _, Nat.zero_le _⟩ rfl (Nat.le_of_ble_eq_true rfl) dX9_drop_7 (fun H locs hw => ?_)
  refine lv_if_ne (tgt := 19) C.1 C.2.1 dX9_drop_10 (by decide) (fun hc => ?_) (fun hc => ?_)
  · replace hf := ifn hf hc
    refine r_aload0 C hl 0 rfl dX9_drop_19 ?_
    refine r_iload0 C hl 1 rfl dX9_drop_20 ?_
    obtain ⟨u3, e3, hf⟩ := bx hf
    refine r_callVi (ws' := (dO G ad d_ad1 dw ++ [])) (As := [.int x1]) (rest := []) C hw hl.1 kX9_placeOf ml_X9_325 (c_X9_placeOf l G ad _ d_ad1 dw x1 u3 e3) (CutX.take dO_f CutX.none) _ (gx_h dO_o) rfl ⟨rfl, rfl⟩ ⟨Nat.le_of_ble_eq_true rfl, Nat.le_of_ble_eq_true rfl⟩ rfl ⟨Nat.zero_le _, Nat.zero_le _⟩ rfl (Nat.le_of_ble_eq_true rfl) dX9_drop_21 (fun H locs hw => ?_)
    refine lv_if_ne (tgt := 33) C.1 C.2.1 dX9_drop_24 (by decide) (fun hc => ?_) (fun hc => ?_)
    · replace hf := ifn hf hc
      refine r_aload0 C hl 0 rfl dX9_drop_33 ?_
      obtain ⟨u4, e4, hf⟩ := bx hf
      refine r_callVv (ws' := (dO G ad u4 dw ++ [])) (As := []) (rest := []) C hw hl.1 kX9_remembers ml_X9_427 (c_X9_remembers l G ad _ d_ad1 dw u4 e4) (CutX.take dO_f CutX.none) _ (gx_h dO_o) rfl ⟨rfl, rfl⟩ ⟨Nat.le_of_ble_eq_true rfl, Nat.le_of_ble_eq_true rfl⟩ rfl ⟨Nat.zero_le _, Nat.zero_le _⟩ rfl (Nat.le_of_ble_eq_true rfl) dX9_drop_34 (fun H locs hw => ?_)
      refine r_aload0 C hl 0 rfl dX9_drop_37 ?_
      refine r_iload0 C hl 1 rfl dX9_drop_38 ?_
      obtain ⟨u5, e5, hf⟩ := bx hf
      refine r_callVi (ws' := (dO G ad u4 dw ++ [])) (As := [.int x1]) (rest := []) C hw hl.1 kX9_placeOf ml_X9_325 (c_X9_placeOf l G ad _ u4 dw x1 u5 e5) (CutX.take dO_f CutX.none) _ (gx_h dO_o) rfl ⟨rfl, rfl⟩ ⟨Nat.le_of_ble_eq_true rfl, Nat.le_of_ble_eq_true rfl⟩ rfl ⟨Nat.zero_le _, Nat.zero_le _⟩ rfl (Nat.le_of_ble_eq_true rfl) dX9_drop_39 (fun H locs hw => ?_)
      refine r_istore0 C hl [(2, .int u5), (0, .ref (ad 99)), (1, .int x1)] (by decide) rfl dX9_drop_42 (fun ls hl => ?_)
      refine r_aload0 C hl 1 rfl dX9_drop_43 ?_
      refine r_iload0 C hl 2 rfl dX9_drop_44 ?_
      obtain ⟨u6, e6, hf⟩ := bx hf
      refine r_callVv (ws' := (dO G ad u6 dw ++ [])) (As := [.int x1]) (rest := []) C hw hl.1 kX9_dropsOne ml_X9_368 (c_X9_dropsOne l G ad _ u4 dw x1 u6 e6) (CutX.take dO_f CutX.none) _ (gx_h dO_o) rfl ⟨rfl, rfl⟩ ⟨Nat.le_of_ble_eq_true rfl, Nat.le_of_ble_eq_true rfl⟩ rfl ⟨Nat.zero_le _, Nat.zero_le _⟩ rfl (Nat.le_of_ble_eq_true rfl) dX9_drop_45 (fun H locs hw => ?_)
      refine r_aload0 C hl 1 rfl dX9_drop_48 ?_
      refine r_iload0 C hl 0 rfl dX9_drop_49 ?_
      obtain ⟨u7, e7, hf⟩ := bx hf
      refine r_callVi (ws' := (dO G ad u7.2 dw ++ [])) (As := [.int u5]) (rest := []) C hw hl.1 kX9_good ml_X9_222 (c_X9_good l G ad _ u6 dw u5 u7 e7) (CutX.take dO_f CutX.none) _ (gx_h dO_o) rfl ⟨rfl, rfl⟩ ⟨Nat.le_of_ble_eq_true rfl, Nat.le_of_ble_eq_true rfl⟩ rfl ⟨Nat.zero_le _, Nat.zero_le _⟩ rfl (Nat.le_of_ble_eq_true rfl) dX9_drop_50 (fun H locs hw => ?_)
      exact fin_i C hw (Option.some.inj hf) (fun o => o.1) (fun o => (dO G ad o.2 dw ++ [])) rfl rfl dX9_drop_53
    · replace hf := ifp hf hc
      refine r_aload0 C hl 0 rfl dX9_drop_27 ?_
      refine lv_iconst (v := 5) C.1 C.2.1 dX9_drop_28 (by decide) ?_
      obtain ⟨u8, e8, hf⟩ := bx hf
      refine r_callVi (ws' := (dO G ad u8.2 dw ++ [])) (As := [.int 5]) (rest := []) C hw hl.1 kX9_refused ml_X9_210 (c_X9_refused l G ad _ d_ad1 dw 5 u8 e8) (CutX.take dO_f CutX.none) _ (gx_h dO_o) rfl ⟨rfl, rfl⟩ ⟨Nat.le_of_ble_eq_true rfl, Nat.le_of_ble_eq_true rfl⟩ rfl ⟨Nat.zero_le _, Nat.zero_le _⟩ rfl (Nat.le_of_ble_eq_true rfl) dX9_drop_29 (fun H locs hw => ?_)
      exact fin_i C hw (Option.some.inj hf) (fun o => o.1) (fun o => (dO G ad o.2 dw ++ [])) rfl rfl dX9_drop_32
  · replace hf := ifp hf hc
    refine r_aload0 C hl 0 rfl dX9_drop_13 ?_
    refine lv_iconst (v := 1) C.1 C.2.1 dX9_drop_14 (by decide) ?_
    obtain ⟨u9, e9, hf⟩ := bx hf
    refine r_callVi (ws' := (dO G ad u9.2 dw ++ [])) (As := [.int 1]) (rest := []) C hw hl.1 kX9_refused ml_X9_210 (c_X9_refused l G ad _ d_ad1 dw 1 u9 e9) (CutX.take dO_f CutX.none) _ (gx_h dO_o) rfl ⟨rfl, rfl⟩ ⟨Nat.le_of_ble_eq_true rfl, Nat.le_of_ble_eq_true rfl⟩ rfl ⟨Nat.zero_le _, Nat.zero_le _⟩ rfl (Nat.le_of_ble_eq_true rfl) dX9_drop_15 (fun H locs hw => ?_)
    exact fin_i C hw (Option.some.inj hf) (fun o => o.1) (fun o => (dO G ad o.2 dw ++ [])) rfl rfl dX9_drop_18
set_option maxHeartbeats 4000000 in
set_option maxRecDepth 100000 in
theorem c_X9_denied (l : Launch) (G : GG) (ad : Nat → Nat) (sz : Nat) (d_ad : Pic) (dw : Int64) (x1 : Int32) (out : Int32 × Pic) (hf : f_X9_denied d_ad x1 = some out) : Met l yX9_denied (.code yX9_denied cX9_denied 2 (some .boolean) :: BT) ({ frames := 1, cells := 0, slots := 0, locals := 21 }) (va_Pc [.ref (ad 99), .int x1] (PreW G sz (dO G ad d_ad dw ++ []))) (Ans G out.1 (va_A (dO G ad d_ad dw ++ []) sz) (dO G ad out.2 dw ++ [])) 0 0 (va_A (dO G ad d_ad dw ++ []) sz) := by
  refine Met.into (by decide) (Nat.le_of_ble_eq_true rfl) ?_
  intro p e s m below meth c C hsz ls hl hw
  have hl : lv_has ls 2 [(0, .ref (ad 99)), (1, .int x1)] := hl
  clear hsz
  generalize va_A (dO G ad d_ad dw ++ []) sz = A at hw ⊢
  unfold f_X9_denied at hf
  refine r_aload0 C hl 0 rfl dX9_denied_0 ?_
  refine r_iload0 C hl 1 rfl dX9_denied_1 ?_
  obtain ⟨u1, e1, hf⟩ := bx hf
  refine r_callVi (ws' := (dO G ad u1.2 dw ++ [])) (As := [.int x1]) (rest := []) C hw hl.1 kX9_refused ml_X9_210 (c_X9_refused l G ad _ d_ad dw x1 u1 e1) (CutX.take dO_f CutX.none) _ (gx_h dO_o) rfl ⟨rfl, rfl⟩ ⟨Nat.le_of_ble_eq_true rfl, Nat.le_of_ble_eq_true rfl⟩ rfl ⟨Nat.zero_le _, Nat.zero_le _⟩ rfl (Nat.le_of_ble_eq_true rfl) dX9_denied_2 (fun H locs hw => ?_)
  refine lv_pop C.1 C.2.1 dX9_denied_5 rfl ?_
  refine lv_iconst (v := 0) C.1 C.2.1 dX9_denied_6 (by decide) ?_
  exact fin_z C hw (by decide) (Option.some.inj hf) (fun o => o.1) (fun o => (dO G ad o.2 dw ++ [])) rfl rfl dX9_denied_7
set_option maxHeartbeats 4000000 in
set_option maxRecDepth 100000 in
theorem c_X9_turnsHeld (l : Launch) (G : GG) (ad : Nat → Nat) (sz : Nat) (d_ad : Pic) (dw : Int64) (x1 : Int32) (x2 : Int32) (out : Int32 × Pic) (hf : f_X9_turnsHeld d_ad x1 x2 = some out) : Met l yX9_turnsHeld (.code yX9_turnsHeld cX9_turnsHeld 3 (some .boolean) :: BT) ({ frames := 1, cells := 0, slots := 0, locals := 21 }) (va_Pc [.ref (ad 99), .int x1, .int x2] (PreW G sz (dO G ad d_ad dw ++ []))) (Ans G out.1 (va_A (dO G ad d_ad dw ++ []) sz) (dO G ad out.2 dw ++ [])) 0 0 (va_A (dO G ad d_ad dw ++ []) sz) := by
  refine Met.into (by decide) (Nat.le_of_ble_eq_true rfl) ?_
  intro p e s m below meth c C hsz ls hl hw
  have hl : lv_has ls 3 [(0, .ref (ad 99)), (1, .int x1), (2, .int x2)] := hl
  clear hsz
  generalize va_A (dO G ad d_ad dw ++ []) sz = A at hw ⊢
  unfold f_X9_turnsHeld at hf
  refine r_aload0 C hl 0 rfl dX9_turnsHeld_0 ?_
  obtain ⟨u1, e1, hf⟩ := bx hf
  refine r_callVv (ws' := (dO G ad u1 dw ++ [])) (As := []) (rest := []) C hw hl.1 kX9_remembers ml_X9_427 (c_X9_remembers l G ad _ d_ad dw u1 e1) (CutX.take dO_f CutX.none) _ (gx_h dO_o) rfl ⟨rfl, rfl⟩ ⟨Nat.le_of_ble_eq_true rfl, Nat.le_of_ble_eq_true rfl⟩ rfl ⟨Nat.zero_le _, Nat.zero_le _⟩ rfl (Nat.le_of_ble_eq_true rfl) dX9_turnsHeld_1 (fun H locs hw => ?_)
  refine r_aload0 C hl 0 rfl dX9_turnsHeld_4 ?_
  refine r_get C hw _ (gx_h dO_o) 20 fl_X9_35 rfl dX9_turnsHeld_5 ?_
  refine lv_sipush (v := 1204) C.1 C.2.1 dX9_turnsHeld_8 (by decide) ?_
  refine r_iload0 C hl 1 rfl dX9_turnsHeld_11 ?_
  refine lv_iadd C.1 C.2.1 dX9_turnsHeld_12 ?_
  refine r_iload0 C hl 2 rfl dX9_turnsHeld_13 ?_
  obtain ⟨d_ad2, e2, hf⟩ := bx hf
  refine r_iast C hw _ (gx_h dO_g20) e2 (dO G ad d_ad2 dw ++ []) (fun h => (sx_h dO_g20 (dO_s20 h))) dX9_turnsHeld_14 (fun H locs hw => ?_)
  refine r_aload0 C hl 0 rfl dX9_turnsHeld_15 ?_
  refine lv_iconst (v := 0) C.1 C.2.1 dX9_turnsHeld_16 (by decide) ?_
  obtain ⟨u3, e3, hf⟩ := bx hf
  refine r_callVi (ws' := (dO G ad u3.2 dw ++ [])) (As := [.int 0]) (rest := []) C hw hl.1 kX9_good ml_X9_222 (c_X9_good l G ad _ d_ad2 dw 0 u3 e3) (CutX.take dO_f CutX.none) _ (gx_h dO_o) rfl ⟨rfl, rfl⟩ ⟨Nat.le_of_ble_eq_true rfl, Nat.le_of_ble_eq_true rfl⟩ rfl ⟨Nat.zero_le _, Nat.zero_le _⟩ rfl (Nat.le_of_ble_eq_true rfl) dX9_turnsHeld_17 (fun H locs hw => ?_)
  refine lv_pop C.1 C.2.1 dX9_turnsHeld_20 rfl ?_
  refine lv_iconst (v := 1) C.1 C.2.1 dX9_turnsHeld_21 (by decide) ?_
  exact fin_z C hw (by decide) (Option.some.inj hf) (fun o => o.1) (fun o => (dO G ad o.2 dw ++ [])) rfl rfl dX9_turnsHeld_22
set_option maxHeartbeats 4000000 in
set_option maxRecDepth 100000 in
theorem c_X9_hold (l : Launch) (G : GG) (ad : Nat → Nat) (sz : Nat) (d_ad : Pic) (dw : Int64) (x1 : Int32) (out : Int32 × Pic) (hf : f_X9_hold d_ad x1 = some out) : Met l yX9_hold (.code yX9_hold cX9_hold 2 (some .boolean) :: BT) ({ frames := 2, cells := 0, slots := 0, locals := 43 }) (va_Pc [.ref (ad 99), .int x1] (PreW G sz (dO G ad d_ad dw ++ []))) (Ans G out.1 (va_A (dO G ad d_ad dw ++ []) sz) (dO G ad out.2 dw ++ [])) 0 0 (va_A (dO G ad d_ad dw ++ []) sz) := by
  refine Met.into (by decide) (Nat.le_of_ble_eq_true rfl) ?_
  intro p e s m below meth c C hsz ls hl hw
  have hl : lv_has ls 2 [(0, .ref (ad 99)), (1, .int x1)] := hl
  clear hsz
  generalize va_A (dO G ad d_ad dw ++ []) sz = A at hw ⊢
  have hB_36 : ∀ (d_ad : Pic), b_X9_hold_36 x1  d_ad = some out → ∀ (H : Heap) (locs : List Loc), Wd G A s H locs (dO G ad d_ad dw ++ []) → ∀ ls : Array Slot, lv_has ls 2 [(0, .ref (ad 99))] → W p l e ({ frames := 2, cells := 0, slots := 0, locals := 43 }) s m [.ref (ad 99), .int x1].toArray below meth c H locs 0 0 (MQ below (Ans G out.1 A (dO G ad out.2 dw ++ [])) [.ref (ad 99), .int x1].toArray s 0 0 A) (F0 m 36 ls []) := by
    intro d_ad hf H locs hw ls hl
    unfold b_X9_hold_36 at hf
    refine r_aload0 C hl 0 rfl dX9_hold_36 ?_
    refine lv_iconst (v := 5) C.1 C.2.1 dX9_hold_37 (by decide) ?_
    obtain ⟨u4, e4, hf⟩ := bx hf
    refine r_callVi (ws' := (dO G ad u4.2 dw ++ [])) (As := [.int 5]) (rest := []) C hw hl.1 kX9_denied ml_X9_430 (c_X9_denied l G ad _ d_ad dw 5 u4 e4) (CutX.take dO_f CutX.none) _ (gx_h dO_o) rfl ⟨rfl, rfl⟩ ⟨Nat.le_of_ble_eq_true rfl, Nat.le_of_ble_eq_true rfl⟩ rfl ⟨Nat.zero_le _, Nat.zero_le _⟩ rfl (Nat.le_of_ble_eq_true rfl) dX9_hold_38 (fun H locs hw => ?_)
    refine lv_goto (tgt := 50) C.1 C.2.1 dX9_hold_41 (by decide) ?_
    obtain ⟨z5_, e5, hf⟩ := bx hf
    obtain rfl := okZ_in e5
    exact fin_z C hw e5 (Option.some.inj hf) (fun o => o.1) (fun o => (dO G ad o.2 dw ++ [])) rfl rfl dX9_hold_50
  unfold f_X9_hold at hf
  refine r_aload0 C hl 0 rfl dX9_hold_0 ?_
  refine lv_iconst (v := 0) C.1 C.2.1 dX9_hold_1 (by decide) ?_
  obtain ⟨d_ad1, e1, hf⟩ := bx hf
  refine r_put C hw _ (gx_h dO_o) 0 fp_X9_75 rfl rfl (Nat.le_of_ble_eq_true rfl) (dO G ad d_ad1 dw ++ []) (sx_h dO_o (dO_p0 e1)) dX9_hold_2 (fun H locs hw => ?_)
  refine r_aload0 C hl 0 rfl dX9_hold_5 ?_
  refine r_iload0 C hl 1 rfl dX9_hold_6 ?_
  obtain ⟨u2, e2, hf⟩ := bx hf
  refine r_callVi (ws' := (dO G ad d_ad1 dw ++ [])) (As := [.int x1]) (rest := []) C hw hl.1 kX9_isPage ml_X9_374 (c_X9_isPage l G ad _ d_ad1 dw x1 u2 e2) (CutX.take dO_f CutX.none) _ (gx_h dO_o) rfl ⟨rfl, rfl⟩ ⟨Nat.le_of_ble_eq_true rfl, Nat.le_of_ble_eq_true rfl⟩ rfl ⟨Nat.zero_le _, Nat.zero_le _⟩ rfl (Nat.le_of_ble_eq_true rfl) dX9_hold_7 (fun H locs hw => ?_)
  refine lv_if_ne (tgt := 19) C.1 C.2.1 dX9_hold_10 (by decide) (fun hc => ?_) (fun hc => ?_)
  · replace hf := ifn hf hc
    refine r_aload0 C hl 0 rfl dX9_hold_19 ?_
    refine r_iload0 C hl 1 rfl dX9_hold_20 ?_
    obtain ⟨u3, e3, hf⟩ := bx hf
    refine r_callVi (ws' := (dO G ad d_ad1 dw ++ [])) (As := [.int x1]) (rest := []) C hw hl.1 kX9_placeOf ml_X9_325 (c_X9_placeOf l G ad _ d_ad1 dw x1 u3 e3) (CutX.take dO_f CutX.none) _ (gx_h dO_o) rfl ⟨rfl, rfl⟩ ⟨Nat.le_of_ble_eq_true rfl, Nat.le_of_ble_eq_true rfl⟩ rfl ⟨Nat.zero_le _, Nat.zero_le _⟩ rfl (Nat.le_of_ble_eq_true rfl) dX9_hold_21 (fun H locs hw => ?_)
    refine lv_iconst (v := 2) C.1 C.2.1 dX9_hold_24 (by decide) ?_
    refine lv_icmp_ne (tgt := 36) C.1 C.2.1 dX9_hold_25 (by decide) (fun hc => ?_) (fun hc => ?_)
    · replace hf := ifn hf hc
      exact hB_36  d_ad1 hf _ _ hw _ (lv_sub hl [0] rfl)
    · replace hf := ifp hf hc
      refine r_aload0 C hl 0 rfl dX9_hold_28 ?_
      refine r_iload0 C hl 1 rfl dX9_hold_29 ?_
      obtain ⟨u6, e6, hf⟩ := bx hf
      refine r_callVi (ws' := (dO G ad d_ad1 dw ++ [])) (As := [.int x1]) (rest := []) C hw hl.1 kX9_isHeld ml_X9_334 (c_X9_isHeld l G ad _ d_ad1 dw x1 u6 e6) (CutX.take dO_f CutX.none) _ (gx_h dO_o) rfl ⟨rfl, rfl⟩ ⟨Nat.le_of_ble_eq_true rfl, Nat.le_of_ble_eq_true rfl⟩ rfl ⟨Nat.zero_le _, Nat.zero_le _⟩ rfl (Nat.le_of_ble_eq_true rfl) dX9_hold_30 (fun H locs hw => ?_)
      refine lv_if_eq (tgt := 44) C.1 C.2.1 dX9_hold_33 (by decide) (fun hc => ?_) (fun hc => ?_)
      · replace hf := ifp hf hc
        refine r_aload0 C hl 0 rfl dX9_hold_44 ?_
        refine r_iload0 C hl 1 rfl dX9_hold_45 ?_
        refine lv_iconst (v := 1) C.1 C.2.1 dX9_hold_46 (by decide) ?_
        obtain ⟨u7, e7, hf⟩ := bx hf
        refine r_callVi (ws' := (dO G ad u7.2 dw ++ [])) (As := [.int x1, .int 1]) (rest := []) C hw hl.1 kX9_turnsHeld ml_X9_433 (c_X9_turnsHeld l G ad _ d_ad1 dw x1 1 u7 e7) (CutX.take dO_f CutX.none) _ (gx_h dO_o) rfl ⟨rfl, rfl⟩ ⟨Nat.le_of_ble_eq_true rfl, Nat.le_of_ble_eq_true rfl⟩ rfl ⟨Nat.zero_le _, Nat.zero_le _⟩ rfl (Nat.le_of_ble_eq_true rfl) dX9_hold_47 (fun H locs hw => ?_)
        obtain ⟨z8_, e8, hf⟩ := bx hf
        obtain rfl := okZ_in e8
        exact fin_z C hw e8 (Option.some.inj hf) (fun o => o.1) (fun o => (dO G ad o.2 dw ++ [])) rfl rfl dX9_hold_50
      · replace hf := ifn hf hc
        exact hB_36  d_ad1 hf _ _ hw _ (lv_sub hl [0] rfl)
  · replace hf := ifp hf hc
    refine r_aload0 C hl 0 rfl dX9_hold_13 ?_
    refine lv_iconst (v := 1) C.1 C.2.1 dX9_hold_14 (by decide) ?_
    obtain ⟨u9, e9, hf⟩ := bx hf
    refine r_callVi (ws' := (dO G ad u9.2 dw ++ [])) (As := [.int 1]) (rest := []) C hw hl.1 kX9_denied ml_X9_430 (c_X9_denied l G ad _ d_ad1 dw 1 u9 e9) (CutX.take dO_f CutX.none) _ (gx_h dO_o) rfl ⟨rfl, rfl⟩ ⟨Nat.le_of_ble_eq_true rfl, Nat.le_of_ble_eq_true rfl⟩ rfl ⟨Nat.zero_le _, Nat.zero_le _⟩ rfl (Nat.le_of_ble_eq_true rfl) dX9_hold_15 (fun H locs hw => ?_)
    obtain ⟨z10_, e10, hf⟩ := bx hf
    obtain rfl := okZ_in e10
    exact fin_z C hw e10 (Option.some.inj hf) (fun o => o.1) (fun o => (dO G ad o.2 dw ++ [])) rfl rfl dX9_hold_18
set_option maxHeartbeats 4000000 in
set_option maxRecDepth 100000 in
theorem c_X9_release (l : Launch) (G : GG) (ad : Nat → Nat) (sz : Nat) (d_ad : Pic) (dw : Int64) (x1 : Int32) (out : Int32 × Pic) (hf : f_X9_release d_ad x1 = some out) : Met l yX9_release (.code yX9_release cX9_release 2 (some .boolean) :: BT) ({ frames := 2, cells := 0, slots := 0, locals := 43 }) (va_Pc [.ref (ad 99), .int x1] (PreW G sz (dO G ad d_ad dw ++ []))) (Ans G out.1 (va_A (dO G ad d_ad dw ++ []) sz) (dO G ad out.2 dw ++ [])) 0 0 (va_A (dO G ad d_ad dw ++ []) sz) := by
  refine Met.into (by decide) (Nat.le_of_ble_eq_true rfl) ?_
  intro p e s m below meth c C hsz ls hl hw
  have hl : lv_has ls 2 [(0, .ref (ad 99)), (1, .int x1)] := hl
  clear hsz
  generalize va_A (dO G ad d_ad dw ++ []) sz = A at hw ⊢
  unfold f_X9_release at hf
  refine r_aload0 C hl 0 rfl dX9_release_0 ?_
  refine lv_iconst (v := 0) C.1 C.2.1 dX9_release_1 (by decide) ?_
  obtain ⟨d_ad1, e1, hf⟩ := bx hf
  refine r_put C hw _ (gx_h dO_o) 0 fp_X9_75 rfl rfl (Nat.le_of_ble_eq_true rfl) (dO G ad d_ad1 dw ++ []) (sx_h dO_o (dO_p0 e1)) dX9_release_2 (fun H locs hw => ?_)
  refine r_aload0 C hl 0 rfl dX9_release_5 ?_
  refine r_iload0 C hl 1 rfl dX9_release_6 ?_
  obtain ⟨u2, e2, hf⟩ := bx hf
  refine r_callVi (ws' := (dO G ad d_ad1 dw ++ [])) (As := [.int x1]) (rest := []) C hw hl.1 kX9_isPage ml_X9_374 (c_X9_isPage l G ad _ d_ad1 dw x1 u2 e2) (CutX.take dO_f CutX.none) _ (gx_h dO_o) rfl ⟨rfl, rfl⟩ ⟨Nat.le_of_ble_eq_true rfl, Nat.le_of_ble_eq_true rfl⟩ rfl ⟨Nat.zero_le _, Nat.zero_le _⟩ rfl (Nat.le_of_ble_eq_true rfl) dX9_release_7 (fun H locs hw => ?_)
  refine lv_if_ne (tgt := 19) C.1 C.2.1 dX9_release_10 (by decide) (fun hc => ?_) (fun hc => ?_)
  · replace hf := ifn hf hc
    refine r_aload0 C hl 0 rfl dX9_release_19 ?_
    refine r_iload0 C hl 1 rfl dX9_release_20 ?_
    obtain ⟨u3, e3, hf⟩ := bx hf
    refine r_callVi (ws' := (dO G ad d_ad1 dw ++ [])) (As := [.int x1]) (rest := []) C hw hl.1 kX9_isHeld ml_X9_334 (c_X9_isHeld l G ad _ d_ad1 dw x1 u3 e3) (CutX.take dO_f CutX.none) _ (gx_h dO_o) rfl ⟨rfl, rfl⟩ ⟨Nat.le_of_ble_eq_true rfl, Nat.le_of_ble_eq_true rfl⟩ rfl ⟨Nat.zero_le _, Nat.zero_le _⟩ rfl (Nat.le_of_ble_eq_true rfl) dX9_release_21 (fun H locs hw => ?_)
    refine lv_if_eq (tgt := 36) C.1 C.2.1 dX9_release_24 (by decide) (fun hc => ?_) (fun hc => ?_)
    · replace hf := ifp hf hc
      refine r_aload0 C hl 0 rfl dX9_release_36 ?_
      refine lv_iconst (v := 5) C.1 C.2.1 dX9_release_37 (by decide) ?_
      obtain ⟨u4, e4, hf⟩ := bx hf
      refine r_callVi (ws' := (dO G ad u4.2 dw ++ [])) (As := [.int 5]) (rest := []) C hw hl.1 kX9_denied ml_X9_430 (c_X9_denied l G ad _ d_ad1 dw 5 u4 e4) (CutX.take dO_f CutX.none) _ (gx_h dO_o) rfl ⟨rfl, rfl⟩ ⟨Nat.le_of_ble_eq_true rfl, Nat.le_of_ble_eq_true rfl⟩ rfl ⟨Nat.zero_le _, Nat.zero_le _⟩ rfl (Nat.le_of_ble_eq_true rfl) dX9_release_38 (fun H locs hw => ?_)
      obtain ⟨z5_, e5, hf⟩ := bx hf
      obtain rfl := okZ_in e5
      exact fin_z C hw e5 (Option.some.inj hf) (fun o => o.1) (fun o => (dO G ad o.2 dw ++ [])) rfl rfl dX9_release_41
    · replace hf := ifn hf hc
      refine r_aload0 C hl 0 rfl dX9_release_27 ?_
      refine r_iload0 C hl 1 rfl dX9_release_28 ?_
      refine lv_iconst (v := 0) C.1 C.2.1 dX9_release_29 (by decide) ?_
      obtain ⟨u6, e6, hf⟩ := bx hf
      refine r_callVi (ws' := (dO G ad u6.2 dw ++ [])) (As := [.int x1, .int 0]) (rest := []) C hw hl.1 kX9_turnsHeld ml_X9_433 (c_X9_turnsHeld l G ad _ d_ad1 dw x1 0 u6 e6) (CutX.take dO_f CutX.none) _ (gx_h dO_o) rfl ⟨rfl, rfl⟩ ⟨Nat.le_of_ble_eq_true rfl, Nat.le_of_ble_eq_true rfl⟩ rfl ⟨Nat.zero_le _, Nat.zero_le _⟩ rfl (Nat.le_of_ble_eq_true rfl) dX9_release_30 (fun H locs hw => ?_)
      refine lv_goto (tgt := 41) C.1 C.2.1 dX9_release_33 (by decide) ?_
      obtain ⟨z7_, e7, hf⟩ := bx hf
      obtain rfl := okZ_in e7
      exact fin_z C hw e7 (Option.some.inj hf) (fun o => o.1) (fun o => (dO G ad o.2 dw ++ [])) rfl rfl dX9_release_41
  · replace hf := ifp hf hc
    refine r_aload0 C hl 0 rfl dX9_release_13 ?_
    refine lv_iconst (v := 1) C.1 C.2.1 dX9_release_14 (by decide) ?_
    obtain ⟨u8, e8, hf⟩ := bx hf
    refine r_callVi (ws' := (dO G ad u8.2 dw ++ [])) (As := [.int 1]) (rest := []) C hw hl.1 kX9_denied ml_X9_430 (c_X9_denied l G ad _ d_ad1 dw 1 u8 e8) (CutX.take dO_f CutX.none) _ (gx_h dO_o) rfl ⟨rfl, rfl⟩ ⟨Nat.le_of_ble_eq_true rfl, Nat.le_of_ble_eq_true rfl⟩ rfl ⟨Nat.zero_le _, Nat.zero_le _⟩ rfl (Nat.le_of_ble_eq_true rfl) dX9_release_15 (fun H locs hw => ?_)
    obtain ⟨z9_, e9, hf⟩ := bx hf
    obtain rfl := okZ_in e9
    exact fin_z C hw e9 (Option.some.inj hf) (fun o => o.1) (fun o => (dO G ad o.2 dw ++ [])) rfl rfl dX9_release_18
set_option maxHeartbeats 4000000 in
set_option maxRecDepth 100000 in
theorem c_X9_poke (l : Launch) (G : GG) (ad : Nat → Nat) (sz : Nat) (d_ad : Pic) (dw : Int64) (x1 : Int32) (x2 : Int32) (x3 : Int32) (out : Int32 × Pic) (hf : f_X9_poke d_ad x1 x2 x3 = some out) : Met l yX9_poke (.code yX9_poke cX9_poke 5 (some .int) :: BT) ({ frames := 1, cells := 0, slots := 0, locals := 22 }) (va_Pc [.ref (ad 99), .int x1, .int x2, .int x3] (PreW G sz (dO G ad d_ad dw ++ []))) (Ans G out.1 (va_A (dO G ad d_ad dw ++ []) sz) (dO G ad out.2 dw ++ [])) 0 0 (va_A (dO G ad d_ad dw ++ []) sz) := by
  refine Met.into (by decide) (Nat.le_of_ble_eq_true rfl) ?_
  intro p e s m below meth c C hsz ls hl hw
  have hl : lv_has ls 5 [(0, .ref (ad 99)), (1, .int x1), (2, .int x2), (3, .int x3)] := hl
  clear hsz
  generalize va_A (dO G ad d_ad dw ++ []) sz = A at hw ⊢
  have hB_23 : ∀ (d_ad : Pic), b_X9_poke_23 x1 x2 x3  d_ad = some out → ∀ (H : Heap) (locs : List Loc), Wd G A s H locs (dO G ad d_ad dw ++ []) → ∀ ls : Array Slot, lv_has ls 5 [(0, .ref (ad 99))] → W p l e ({ frames := 1, cells := 0, slots := 0, locals := 22 }) s m [.ref (ad 99), .int x1, .int x2, .int x3].toArray below meth c H locs 0 0 (MQ below (Ans G out.1 A (dO G ad out.2 dw ++ [])) [.ref (ad 99), .int x1, .int x2, .int x3].toArray s 0 0 A) (F0 m 23 ls []) := by
    intro d_ad hf H locs hw ls hl
    unfold b_X9_poke_23 at hf
    refine r_aload0 C hl 0 rfl dX9_poke_23 ?_
    refine lv_iconst (v := 1) C.1 C.2.1 dX9_poke_24 (by decide) ?_
    obtain ⟨u3, e3, hf⟩ := bx hf
    refine r_callVi (ws' := (dO G ad u3.2 dw ++ [])) (As := [.int 1]) (rest := []) C hw hl.1 kX9_refused ml_X9_210 (c_X9_refused l G ad _ d_ad dw 1 u3 e3) (CutX.take dO_f CutX.none) _ (gx_h dO_o) rfl ⟨rfl, rfl⟩ ⟨Nat.le_of_ble_eq_true rfl, Nat.le_of_ble_eq_true rfl⟩ rfl ⟨Nat.zero_le _, Nat.zero_le _⟩ rfl (Nat.le_of_ble_eq_true rfl) dX9_poke_25 (fun H locs hw => ?_)
    exact fin_i C hw (Option.some.inj hf) (fun o => o.1) (fun o => (dO G ad o.2 dw ++ [])) rfl rfl dX9_poke_28
  unfold f_X9_poke at hf
  refine r_aload0 C hl 0 rfl dX9_poke_0 ?_
  refine lv_iconst (v := 0) C.1 C.2.1 dX9_poke_1 (by decide) ?_
  obtain ⟨d_ad1, e1, hf⟩ := bx hf
  refine r_put C hw _ (gx_h dO_o) 0 fp_X9_75 rfl rfl (Nat.le_of_ble_eq_true rfl) (dO G ad d_ad1 dw ++ []) (sx_h dO_o (dO_p0 e1)) dX9_poke_2 (fun H locs hw => ?_)
  refine r_aload0 C hl 0 rfl dX9_poke_5 ?_
  refine r_iload0 C hl 1 rfl dX9_poke_6 ?_
  obtain ⟨u2, e2, hf⟩ := bx hf
  refine r_callVi (ws' := (dO G ad d_ad1 dw ++ [])) (As := [.int x1]) (rest := []) C hw hl.1 kX9_isData ml_X9_271 (c_X9_isData l G ad _ d_ad1 dw x1 u2 e2) (CutX.take dO_f CutX.none) _ (gx_h dO_o) rfl ⟨rfl, rfl⟩ ⟨Nat.le_of_ble_eq_true rfl, Nat.le_of_ble_eq_true rfl⟩ rfl ⟨Nat.zero_le _, Nat.zero_le _⟩ rfl (Nat.le_of_ble_eq_true rfl) dX9_poke_7 (fun H locs hw => ?_)
  refine lv_if_eq (tgt := 23) C.1 C.2.1 dX9_poke_10 (by decide) (fun hc => ?_) (fun hc => ?_)
  · replace hf := ifp hf hc
    exact hB_23  d_ad1 hf _ _ hw _ (lv_sub hl [0] rfl)
  · replace hf := ifn hf hc
    refine r_iload0 C hl 2 rfl dX9_poke_13 ?_
    refine lv_iconst (v := 0) C.1 C.2.1 dX9_poke_14 (by decide) ?_
    refine lv_bipush (v := 15) C.1 C.2.1 dX9_poke_15 (by decide) ?_
    obtain ⟨u4, e4, hf⟩ := bx hf
    refine r_callSi (ws' := (dO G ad d_ad1 dw ++ [])) (As := [.int x2, .int 0, .int 15]) (rest := []) C hw hl.1 kX9_in ml_X9_100 (c_X9_in l G _ x2 0 15 u4 e4) CutX.none ⟨rfl, rfl⟩ ⟨Nat.le_of_ble_eq_true rfl, Nat.le_of_ble_eq_true rfl⟩ rfl ⟨Nat.zero_le _, Nat.zero_le _⟩ rfl (Nat.le_of_ble_eq_true rfl) dX9_poke_17 (fun H locs hw => ?_)
    refine lv_if_ne (tgt := 29) C.1 C.2.1 dX9_poke_20 (by decide) (fun hc => ?_) (fun hc => ?_)
    · replace hf := ifn hf hc
      refine r_iload0 C hl 3 rfl dX9_poke_29 ?_
      refine lv_iconst (v := 0) C.1 C.2.1 dX9_poke_30 (by decide) ?_
      refine lv_bipush (v := 99) C.1 C.2.1 dX9_poke_31 (by decide) ?_
      obtain ⟨u5, e5, hf⟩ := bx hf
      refine r_callSi (ws' := (dO G ad d_ad1 dw ++ [])) (As := [.int x3, .int 0, .int 99]) (rest := []) C hw hl.1 kX9_in ml_X9_100 (c_X9_in l G _ x3 0 99 u5 e5) CutX.none ⟨rfl, rfl⟩ ⟨Nat.le_of_ble_eq_true rfl, Nat.le_of_ble_eq_true rfl⟩ rfl ⟨Nat.zero_le _, Nat.zero_le _⟩ rfl (Nat.le_of_ble_eq_true rfl) dX9_poke_33 (fun H locs hw => ?_)
      refine lv_if_ne (tgt := 45) C.1 C.2.1 dX9_poke_36 (by decide) (fun hc => ?_) (fun hc => ?_)
      · replace hf := ifn hf hc
        refine r_aload0 C hl 0 rfl dX9_poke_45 ?_
        obtain ⟨u6, e6, hf⟩ := bx hf
        refine r_callVv (ws' := (dO G ad u6 dw ++ [])) (As := []) (rest := []) C hw hl.1 kX9_remembers ml_X9_427 (c_X9_remembers l G ad _ d_ad1 dw u6 e6) (CutX.take dO_f CutX.none) _ (gx_h dO_o) rfl ⟨rfl, rfl⟩ ⟨Nat.le_of_ble_eq_true rfl, Nat.le_of_ble_eq_true rfl⟩ rfl ⟨Nat.zero_le _, Nat.zero_le _⟩ rfl (Nat.le_of_ble_eq_true rfl) dX9_poke_46 (fun H locs hw => ?_)
        refine r_aload0 C hl 0 rfl dX9_poke_49 ?_
        refine r_get C hw _ (gx_h dO_o) 20 fl_X9_35 rfl dX9_poke_50 ?_
        refine r_iload0 C hl 1 rfl dX9_poke_53 ?_
        obtain ⟨u7, e7, hf⟩ := bx hf
        refine r_callSi (ws' := (dO G ad u6 dw ++ [])) (As := [.int x1]) (rest := [.ref (ad 20)]) C hw hl.1 kX9_dataAt ml_X9_274 (c_X9_dataAt l G _ x1 u7 e7) CutX.none ⟨rfl, rfl⟩ ⟨Nat.le_of_ble_eq_true rfl, Nat.le_of_ble_eq_true rfl⟩ rfl ⟨Nat.zero_le _, Nat.zero_le _⟩ rfl (Nat.le_of_ble_eq_true rfl) dX9_poke_54 (fun H locs hw => ?_)
        refine r_iload0 C hl 2 rfl dX9_poke_57 ?_
        refine lv_iadd C.1 C.2.1 dX9_poke_58 ?_
        obtain ⟨v8_, e8, hf⟩ := bx hf
        refine r_iald C hw _ (gx_h dO_g20) e8 dX9_poke_59 ?_
        refine r_istore C hl [(4, .int v8_), (0, .ref (ad 99)), (1, .int x1), (2, .int x2), (3, .int x3)] (by decide) rfl dX9_poke_60 (fun ls hl => ?_)
        refine r_aload0 C hl 1 rfl dX9_poke_62 ?_
        refine r_get C hw _ (gx_h dO_o) 20 fl_X9_35 rfl dX9_poke_63 ?_
        refine r_iload0 C hl 2 rfl dX9_poke_66 ?_
        obtain ⟨u9, e9, hf⟩ := bx hf
        refine r_callSi (ws' := (dO G ad u6 dw ++ [])) (As := [.int x1]) (rest := [.ref (ad 20)]) C hw hl.1 kX9_dataAt ml_X9_274 (c_X9_dataAt l G _ x1 u9 e9) CutX.none ⟨rfl, rfl⟩ ⟨Nat.le_of_ble_eq_true rfl, Nat.le_of_ble_eq_true rfl⟩ rfl ⟨Nat.zero_le _, Nat.zero_le _⟩ rfl (Nat.le_of_ble_eq_true rfl) dX9_poke_67 (fun H locs hw => ?_)
        refine r_iload0 C hl 3 rfl dX9_poke_70 ?_
        refine lv_iadd C.1 C.2.1 dX9_poke_71 ?_
        refine r_iload0 C hl 4 rfl dX9_poke_72 ?_
        obtain ⟨d_ad10, e10, hf⟩ := bx hf
        refine r_iast C hw _ (gx_h dO_g20) e10 (dO G ad d_ad10 dw ++ []) (fun h => (sx_h dO_g20 (dO_s20 h))) dX9_poke_73 (fun H locs hw => ?_)
        refine r_aload0 C hl 1 rfl dX9_poke_74 ?_
        refine r_iload C hl 0 rfl dX9_poke_75 ?_
        obtain ⟨u11, e11, hf⟩ := bx hf
        refine r_callVi (ws' := (dO G ad u11.2 dw ++ [])) (As := [.int v8_]) (rest := []) C hw hl.1 kX9_good ml_X9_222 (c_X9_good l G ad _ d_ad10 dw v8_ u11 e11) (CutX.take dO_f CutX.none) _ (gx_h dO_o) rfl ⟨rfl, rfl⟩ ⟨Nat.le_of_ble_eq_true rfl, Nat.le_of_ble_eq_true rfl⟩ rfl ⟨Nat.zero_le _, Nat.zero_le _⟩ rfl (Nat.le_of_ble_eq_true rfl) dX9_poke_77 (fun H locs hw => ?_)
        exact fin_i C hw (Option.some.inj hf) (fun o => o.1) (fun o => (dO G ad o.2 dw ++ [])) rfl rfl dX9_poke_80
      · replace hf := ifp hf hc
        refine r_aload0 C hl 0 rfl dX9_poke_39 ?_
        refine lv_iconst (v := 2) C.1 C.2.1 dX9_poke_40 (by decide) ?_
        obtain ⟨u12, e12, hf⟩ := bx hf
        refine r_callVi (ws' := (dO G ad u12.2 dw ++ [])) (As := [.int 2]) (rest := []) C hw hl.1 kX9_refused ml_X9_210 (c_X9_refused l G ad _ d_ad1 dw 2 u12 e12) (CutX.take dO_f CutX.none) _ (gx_h dO_o) rfl ⟨rfl, rfl⟩ ⟨Nat.le_of_ble_eq_true rfl, Nat.le_of_ble_eq_true rfl⟩ rfl ⟨Nat.zero_le _, Nat.zero_le _⟩ rfl (Nat.le_of_ble_eq_true rfl) dX9_poke_41 (fun H locs hw => ?_)
        exact fin_i C hw (Option.some.inj hf) (fun o => o.1) (fun o => (dO G ad o.2 dw ++ [])) rfl rfl dX9_poke_44
    · replace hf := ifp hf hc
      exact hB_23  d_ad1 hf _ _ hw _ (lv_sub hl [0] rfl)
set_option maxHeartbeats 4000000 in
set_option maxRecDepth 100000 in
theorem c_X9_writeBack (l : Launch) (G : GG) (ad : Nat → Nat) (sz : Nat) (d_ad : Pic) (dw : Int64) (x1 : Int32) (out : Int32 × Pic) (hf : f_X9_writeBack d_ad x1 = some out) : Met l yX9_writeBack (.code yX9_writeBack cX9_writeBack 3 (some .int) :: BT) ({ frames := 4, cells := 0, slots := 0, locals := 87 }) (va_Pc [.ref (ad 99), .int x1] (PreW G sz (dO G ad d_ad dw ++ []))) (Ans G out.1 (va_A (dO G ad d_ad dw ++ []) sz) (dO G ad out.2 dw ++ [])) 0 0 (va_A (dO G ad d_ad dw ++ []) sz) := by
  refine Met.into (by decide) (Nat.le_of_ble_eq_true rfl) ?_
  intro p e s m below meth c C hsz ls hl hw
  have hl : lv_has ls 3 [(0, .ref (ad 99)), (1, .int x1)] := hl
  clear hsz
  generalize va_A (dO G ad d_ad dw ++ []) sz = A at hw ⊢
  have hB_64 : ∀ (d_ad : Pic) (v2 : Int32), b_X9_writeBack_64 x1  d_ad v2 = some out → ∀ (H : Heap) (locs : List Loc), Wd G A s H locs (dO G ad d_ad dw ++ []) → ∀ ls : Array Slot, lv_has ls 3 [(0, .ref (ad 99)), (2, .int v2)] → W p l e ({ frames := 4, cells := 0, slots := 0, locals := 87 }) s m [.ref (ad 99), .int x1].toArray below meth c H locs 0 0 (MQ below (Ans G out.1 A (dO G ad out.2 dw ++ [])) [.ref (ad 99), .int x1].toArray s 0 0 A) (F0 m 64 ls []) := by
    intro d_ad v2 hf H locs hw ls hl
    unfold b_X9_writeBack_64 at hf
    refine r_aload0 C hl 0 rfl dX9_writeBack_64 ?_
    refine r_iload0 C hl 1 rfl dX9_writeBack_65 ?_
    obtain ⟨u4, e4, hf⟩ := bx hf
    refine r_callVi (ws' := (dO G ad u4.2 dw ++ [])) (As := [.int v2]) (rest := []) C hw hl.1 kX9_good ml_X9_222 (c_X9_good l G ad _ d_ad dw v2 u4 e4) (CutX.take dO_f CutX.none) _ (gx_h dO_o) rfl ⟨rfl, rfl⟩ ⟨Nat.le_of_ble_eq_true rfl, Nat.le_of_ble_eq_true rfl⟩ rfl ⟨Nat.zero_le _, Nat.zero_le _⟩ rfl (Nat.le_of_ble_eq_true rfl) dX9_writeBack_66 (fun H locs hw => ?_)
    exact fin_i C hw (Option.some.inj hf) (fun o => o.1) (fun o => (dO G ad o.2 dw ++ [])) rfl rfl dX9_writeBack_69
  have hB_40 : ∀ (k40 : Pic → Int32 → Option (Int32 × Pic)) (hk40 : ∀ (d_ad : Pic) (v2 : Int32), k40 d_ad v2 = some out → ∀ (H : Heap) (locs : List Loc), Wd G A s H locs (dO G ad d_ad dw ++ []) → ∀ ls : Array Slot, lv_has ls 3 [(0, .ref (ad 99)), (1, .int x1), (2, .int v2)] → W p l e ({ frames := 4, cells := 0, slots := 0, locals := 87 }) s m [.ref (ad 99), .int x1].toArray below meth c H locs 0 0 (MQ below (Ans G out.1 A (dO G ad out.2 dw ++ [])) [.ref (ad 99), .int x1].toArray s 0 0 A) (F0 m 40 ls [])), ∀ (d_ad : Pic) (v2 : Int32), b_X9_writeBack_40 x1 k40 d_ad v2 = some out → ∀ (H : Heap) (locs : List Loc), Wd G A s H locs (dO G ad d_ad dw ++ []) → ∀ ls : Array Slot, lv_has ls 3 [(0, .ref (ad 99)), (1, .int x1), (2, .int v2)] → W p l e ({ frames := 4, cells := 0, slots := 0, locals := 87 }) s m [.ref (ad 99), .int x1].toArray below meth c H locs 0 0 (MQ below (Ans G out.1 A (dO G ad out.2 dw ++ [])) [.ref (ad 99), .int x1].toArray s 0 0 A) (F0 m 40 ls []) := by
    intro k40 hk40 d_ad v2 hf H locs hw ls hl
    unfold b_X9_writeBack_40 at hf
    refine r_iload0 C hl 2 rfl dX9_writeBack_40 ?_
    refine r_iload0 C hl 1 rfl dX9_writeBack_41 ?_
    refine lv_icmp_ge (tgt := 64) C.1 C.2.1 dX9_writeBack_42 (by decide) (fun hc => ?_) (fun hc => ?_)
    · replace hf := ifp hf hc
      exact hB_64  d_ad v2 hf _ _ hw _ (lv_sub hl [0, 2] rfl)
    · replace hf := ifn hf hc
      refine r_aload0 C hl 0 rfl dX9_writeBack_45 ?_
      obtain ⟨u5, e5, hf⟩ := bx hf
      refine r_callVi (ws' := (dO G ad d_ad dw ++ [])) (As := []) (rest := []) C hw hl.1 kX9_coldestFree ml_X9_337 (c_X9_coldestFree l G ad _ d_ad dw u5 e5) (CutX.take dO_f CutX.none) _ (gx_h dO_o) rfl ⟨rfl, rfl⟩ ⟨Nat.le_of_ble_eq_true rfl, Nat.le_of_ble_eq_true rfl⟩ rfl ⟨Nat.zero_le _, Nat.zero_le _⟩ rfl (Nat.le_of_ble_eq_true rfl) dX9_writeBack_46 (fun H locs hw => ?_)
      refine lv_iconst (v := (-1)) C.1 C.2.1 dX9_writeBack_49 (by decide) ?_
      refine lv_icmp_eq (tgt := 64) C.1 C.2.1 dX9_writeBack_50 (by decide) (fun hc => ?_) (fun hc => ?_)
      · replace hf := ifp hf hc
        exact hB_64  d_ad v2 hf _ _ hw _ (lv_sub hl [0, 2] rfl)
      · replace hf := ifn hf hc
        refine r_aload0 C hl 0 rfl dX9_writeBack_53 ?_
        obtain ⟨u6, e6, hf⟩ := bx hf
        refine r_callVi (ws' := (dO G ad u6.2 dw ++ [])) (As := []) (rest := []) C hw hl.1 kX9_writesColdest ml_X9_362 (c_X9_writesColdest l G ad _ d_ad dw u6 e6) (CutX.take dO_f CutX.none) _ (gx_h dO_o) rfl ⟨rfl, rfl⟩ ⟨Nat.le_of_ble_eq_true rfl, Nat.le_of_ble_eq_true rfl⟩ rfl ⟨Nat.zero_le _, Nat.zero_le _⟩ rfl (Nat.le_of_ble_eq_true rfl) dX9_writeBack_54 (fun H locs hw => ?_)
        refine lv_pop C.1 C.2.1 dX9_writeBack_57 rfl ?_
        refine r_iinc C hl 2 (v2 + 1) [(2, .int (v2 + 1)), (0, .ref (ad 99)), (1, .int x1)] rfl (iinc_e (by decide)) (by decide) rfl dX9_writeBack_58 (fun ls hl => ?_)
        refine lv_goto (tgt := 40) C.1 C.2.1 dX9_writeBack_61 (by decide) ?_
        exact hk40 u6.2 (v2 + 1) hf _ _ hw _ (lv_sub hl [1, 2, 0] rfl)
  have hL_40 : ∀ n : Nat, ∀ (d_ad : Pic) (v2 : Int32), L_X9_writeBack_40 x1  n d_ad v2 = some out → ∀ (H : Heap) (locs : List Loc), Wd G A s H locs (dO G ad d_ad dw ++ []) → ∀ ls : Array Slot, lv_has ls 3 [(0, .ref (ad 99)), (1, .int x1), (2, .int v2)] → W p l e ({ frames := 4, cells := 0, slots := 0, locals := 87 }) s m [.ref (ad 99), .int x1].toArray below meth c H locs 0 0 (MQ below (Ans G out.1 A (dO G ad out.2 dw ++ [])) [.ref (ad 99), .int x1].toArray s 0 0 A) (F0 m 40 ls []) := by
    intro  n
    induction n with
    | zero => intro d_ad v2 hf; cases hf
    | succ n ih => exact hB_40 _ ih
  unfold f_X9_writeBack at hf
  refine r_aload0 C hl 0 rfl dX9_writeBack_0 ?_
  refine lv_iconst (v := 0) C.1 C.2.1 dX9_writeBack_1 (by decide) ?_
  obtain ⟨d_ad1, e1, hf⟩ := bx hf
  refine r_put C hw _ (gx_h dO_o) 0 fp_X9_75 rfl rfl (Nat.le_of_ble_eq_true rfl) (dO G ad d_ad1 dw ++ []) (sx_h dO_o (dO_p0 e1)) dX9_writeBack_2 (fun H locs hw => ?_)
  refine r_aload0 C hl 0 rfl dX9_writeBack_5 ?_
  refine r_get C hw _ (gx_h dO_o) 19 fl_X9_225 rfl dX9_writeBack_6 ?_
  refine lv_if_ne (tgt := 18) C.1 C.2.1 dX9_writeBack_9 (by decide) (fun hc => ?_) (fun hc => ?_)
  · replace hf := ifn hf hc
    refine r_iload0 C hl 1 rfl dX9_writeBack_18 ?_
    refine lv_iconst (v := 1) C.1 C.2.1 dX9_writeBack_19 (by decide) ?_
    refine lv_bipush (v := 30) C.1 C.2.1 dX9_writeBack_20 (by decide) ?_
    obtain ⟨u2, e2, hf⟩ := bx hf
    refine r_callSi (ws' := (dO G ad d_ad1 dw ++ [])) (As := [.int x1, .int 1, .int 30]) (rest := []) C hw hl.1 kX9_in ml_X9_100 (c_X9_in l G _ x1 1 30 u2 e2) CutX.none ⟨rfl, rfl⟩ ⟨Nat.le_of_ble_eq_true rfl, Nat.le_of_ble_eq_true rfl⟩ rfl ⟨Nat.zero_le _, Nat.zero_le _⟩ rfl (Nat.le_of_ble_eq_true rfl) dX9_writeBack_22 (fun H locs hw => ?_)
    refine lv_if_ne (tgt := 34) C.1 C.2.1 dX9_writeBack_25 (by decide) (fun hc => ?_) (fun hc => ?_)
    · replace hf := ifn hf hc
      refine r_aload0 C hl 0 rfl dX9_writeBack_34 ?_
      obtain ⟨u3, e3, hf⟩ := bx hf
      refine r_callVv (ws' := (dO G ad u3 dw ++ [])) (As := []) (rest := []) C hw hl.1 kX9_remembers ml_X9_427 (c_X9_remembers l G ad _ d_ad1 dw u3 e3) (CutX.take dO_f CutX.none) _ (gx_h dO_o) rfl ⟨rfl, rfl⟩ ⟨Nat.le_of_ble_eq_true rfl, Nat.le_of_ble_eq_true rfl⟩ rfl ⟨Nat.zero_le _, Nat.zero_le _⟩ rfl (Nat.le_of_ble_eq_true rfl) dX9_writeBack_35 (fun H locs hw => ?_)
      refine lv_iconst (v := 0) C.1 C.2.1 dX9_writeBack_38 (by decide) ?_
      refine r_istore0 C hl [(2, .int 0), (0, .ref (ad 99)), (1, .int x1)] (by decide) rfl dX9_writeBack_39 (fun ls hl => ?_)
      exact hL_40  FU u3 0 hf _ _ hw _ (lv_sub hl [1, 2, 0] rfl)
    · replace hf := ifp hf hc
      refine r_aload0 C hl 0 rfl dX9_writeBack_28 ?_
      refine lv_iconst (v := 2) C.1 C.2.1 dX9_writeBack_29 (by decide) ?_
      obtain ⟨u7, e7, hf⟩ := bx hf
      refine r_callVi (ws' := (dO G ad u7.2 dw ++ [])) (As := [.int 2]) (rest := []) C hw hl.1 kX9_refused ml_X9_210 (c_X9_refused l G ad _ d_ad1 dw 2 u7 e7) (CutX.take dO_f CutX.none) _ (gx_h dO_o) rfl ⟨rfl, rfl⟩ ⟨Nat.le_of_ble_eq_true rfl, Nat.le_of_ble_eq_true rfl⟩ rfl ⟨Nat.zero_le _, Nat.zero_le _⟩ rfl (Nat.le_of_ble_eq_true rfl) dX9_writeBack_30 (fun H locs hw => ?_)
      exact fin_i C hw (Option.some.inj hf) (fun o => o.1) (fun o => (dO G ad o.2 dw ++ [])) rfl rfl dX9_writeBack_33
  · replace hf := ifp hf hc
    refine r_aload0 C hl 0 rfl dX9_writeBack_12 ?_
    refine lv_iconst (v := 1) C.1 C.2.1 dX9_writeBack_13 (by decide) ?_
    obtain ⟨u8, e8, hf⟩ := bx hf
    refine r_callVi (ws' := (dO G ad u8.2 dw ++ [])) (As := [.int 1]) (rest := []) C hw hl.1 kX9_refused ml_X9_210 (c_X9_refused l G ad _ d_ad1 dw 1 u8 e8) (CutX.take dO_f CutX.none) _ (gx_h dO_o) rfl ⟨rfl, rfl⟩ ⟨Nat.le_of_ble_eq_true rfl, Nat.le_of_ble_eq_true rfl⟩ rfl ⟨Nat.zero_le _, Nat.zero_le _⟩ rfl (Nat.le_of_ble_eq_true rfl) dX9_writeBack_14 (fun H locs hw => ?_)
    exact fin_i C hw (Option.some.inj hf) (fun o => o.1) (fun o => (dO G ad o.2 dw ++ [])) rfl rfl dX9_writeBack_17
set_option maxHeartbeats 4000000 in
set_option maxRecDepth 100000 in
theorem c_X9_limit (l : Launch) (G : GG) (ad : Nat → Nat) (sz : Nat) (d_ad : Pic) (dw : Int64) (x1 : Int32) (out : Int32 × Pic) (hf : f_X9_limit d_ad x1 = some out) : Met l yX9_limit (.code yX9_limit cX9_limit 3 (some .int) :: BT) ({ frames := 5, cells := 0, slots := 0, locals := 109 }) (va_Pc [.ref (ad 99), .int x1] (PreW G sz (dO G ad d_ad dw ++ []))) (Ans G out.1 (va_A (dO G ad d_ad dw ++ []) sz) (dO G ad out.2 dw ++ [])) 0 0 (va_A (dO G ad d_ad dw ++ []) sz) := by
  refine Met.into (by decide) (Nat.le_of_ble_eq_true rfl) ?_
  intro p e s m below meth c C hsz ls hl hw
  have hl : lv_has ls 3 [(0, .ref (ad 99)), (1, .int x1)] := hl
  clear hsz
  generalize va_A (dO G ad d_ad dw ++ []) sz = A at hw ⊢
  unfold f_X9_limit at hf
  refine r_aload0 C hl 0 rfl dX9_limit_0 ?_
  refine lv_iconst (v := 0) C.1 C.2.1 dX9_limit_1 (by decide) ?_
  obtain ⟨d_ad1, e1, hf⟩ := bx hf
  refine r_put C hw _ (gx_h dO_o) 0 fp_X9_75 rfl rfl (Nat.le_of_ble_eq_true rfl) (dO G ad d_ad1 dw ++ []) (sx_h dO_o (dO_p0 e1)) dX9_limit_2 (fun H locs hw => ?_)
  refine r_aload0 C hl 0 rfl dX9_limit_5 ?_
  refine r_get C hw _ (gx_h dO_o) 19 fl_X9_225 rfl dX9_limit_6 ?_
  refine lv_if_ne (tgt := 18) C.1 C.2.1 dX9_limit_9 (by decide) (fun hc => ?_) (fun hc => ?_)
  · replace hf := ifn hf hc
    refine r_iload0 C hl 1 rfl dX9_limit_18 ?_
    refine lv_iconst (v := 1) C.1 C.2.1 dX9_limit_19 (by decide) ?_
    refine lv_bipush (v := 24) C.1 C.2.1 dX9_limit_20 (by decide) ?_
    obtain ⟨u2, e2, hf⟩ := bx hf
    refine r_callSi (ws' := (dO G ad d_ad1 dw ++ [])) (As := [.int x1, .int 1, .int 24]) (rest := []) C hw hl.1 kX9_in ml_X9_100 (c_X9_in l G _ x1 1 24 u2 e2) CutX.none ⟨rfl, rfl⟩ ⟨Nat.le_of_ble_eq_true rfl, Nat.le_of_ble_eq_true rfl⟩ rfl ⟨Nat.zero_le _, Nat.zero_le _⟩ rfl (Nat.le_of_ble_eq_true rfl) dX9_limit_22 (fun H locs hw => ?_)
    refine lv_if_ne (tgt := 34) C.1 C.2.1 dX9_limit_25 (by decide) (fun hc => ?_) (fun hc => ?_)
    · replace hf := ifn hf hc
      refine r_aload0 C hl 0 rfl dX9_limit_34 ?_
      obtain ⟨u3, e3, hf⟩ := bx hf
      refine r_callVv (ws' := (dO G ad u3 dw ++ [])) (As := []) (rest := []) C hw hl.1 kX9_remembers ml_X9_427 (c_X9_remembers l G ad _ d_ad1 dw u3 e3) (CutX.take dO_f CutX.none) _ (gx_h dO_o) rfl ⟨rfl, rfl⟩ ⟨Nat.le_of_ble_eq_true rfl, Nat.le_of_ble_eq_true rfl⟩ rfl ⟨Nat.zero_le _, Nat.zero_le _⟩ rfl (Nat.le_of_ble_eq_true rfl) dX9_limit_35 (fun H locs hw => ?_)
      refine r_aload0 C hl 0 rfl dX9_limit_38 ?_
      refine r_get C hw _ (gx_h dO_o) 20 fl_X9_35 rfl dX9_limit_39 ?_
      refine lv_iconst (v := 0) C.1 C.2.1 dX9_limit_42 (by decide) ?_
      refine r_iload0 C hl 1 rfl dX9_limit_43 ?_
      obtain ⟨d_ad4, e4, hf⟩ := bx hf
      refine r_iast C hw _ (gx_h dO_g20) e4 (dO G ad d_ad4 dw ++ []) (fun h => (sx_h dO_g20 (dO_s20 h))) dX9_limit_44 (fun H locs hw => ?_)
      refine r_aload0 C hl 0 rfl dX9_limit_45 ?_
      refine r_iload0 C hl 1 rfl dX9_limit_46 ?_
      obtain ⟨u5, e5, hf⟩ := bx hf
      refine r_callVi (ws' := (dO G ad u5.2 dw ++ [])) (As := [.int x1]) (rest := []) C hw hl.1 kX9_goes ml_X9_404 (c_X9_goes l G ad _ d_ad4 dw x1 u5 e5) (CutX.take dO_f CutX.none) _ (gx_h dO_o) rfl ⟨rfl, rfl⟩ ⟨Nat.le_of_ble_eq_true rfl, Nat.le_of_ble_eq_true rfl⟩ rfl ⟨Nat.zero_le _, Nat.zero_le _⟩ rfl (Nat.le_of_ble_eq_true rfl) dX9_limit_47 (fun H locs hw => ?_)
      refine r_istore0 C hl [(2, .int u5.1), (0, .ref (ad 99)), (1, .int x1)] (by decide) rfl dX9_limit_50 (fun ls hl => ?_)
      refine r_aload0 C hl 1 rfl dX9_limit_51 ?_
      refine r_get C hw _ (gx_h dO_o) 20 fl_X9_35 rfl dX9_limit_52 ?_
      refine lv_iconst (v := 2) C.1 C.2.1 dX9_limit_55 (by decide) ?_
      refine lv_dup2_11 C.1 C.2.1 dX9_limit_56 rfl rfl ?_
      obtain ⟨v6_, e6, hf⟩ := bx hf
      refine r_iald C hw _ (gx_h dO_g20) e6 dX9_limit_57 ?_
      refine r_iload0 C hl 0 rfl dX9_limit_58 ?_
      refine lv_iadd C.1 C.2.1 dX9_limit_59 ?_
      obtain ⟨d_ad7, e7, hf⟩ := bx hf
      refine r_iast C hw _ (gx_h dO_g20) e7 (dO G ad d_ad7 dw ++ []) (fun h => (sx_h dO_g20 (dO_s20 h))) dX9_limit_60 (fun H locs hw => ?_)
      refine r_aload0 C hl 1 rfl dX9_limit_61 ?_
      refine r_iload0 C hl 0 rfl dX9_limit_62 ?_
      obtain ⟨u8, e8, hf⟩ := bx hf
      refine r_callVi (ws' := (dO G ad u8.2 dw ++ [])) (As := [.int u5.1]) (rest := []) C hw hl.1 kX9_good ml_X9_222 (c_X9_good l G ad _ d_ad7 dw u5.1 u8 e8) (CutX.take dO_f CutX.none) _ (gx_h dO_o) rfl ⟨rfl, rfl⟩ ⟨Nat.le_of_ble_eq_true rfl, Nat.le_of_ble_eq_true rfl⟩ rfl ⟨Nat.zero_le _, Nat.zero_le _⟩ rfl (Nat.le_of_ble_eq_true rfl) dX9_limit_63 (fun H locs hw => ?_)
      exact fin_i C hw (Option.some.inj hf) (fun o => o.1) (fun o => (dO G ad o.2 dw ++ [])) rfl rfl dX9_limit_66
    · replace hf := ifp hf hc
      refine r_aload0 C hl 0 rfl dX9_limit_28 ?_
      refine lv_iconst (v := 2) C.1 C.2.1 dX9_limit_29 (by decide) ?_
      obtain ⟨u9, e9, hf⟩ := bx hf
      refine r_callVi (ws' := (dO G ad u9.2 dw ++ [])) (As := [.int 2]) (rest := []) C hw hl.1 kX9_refused ml_X9_210 (c_X9_refused l G ad _ d_ad1 dw 2 u9 e9) (CutX.take dO_f CutX.none) _ (gx_h dO_o) rfl ⟨rfl, rfl⟩ ⟨Nat.le_of_ble_eq_true rfl, Nat.le_of_ble_eq_true rfl⟩ rfl ⟨Nat.zero_le _, Nat.zero_le _⟩ rfl (Nat.le_of_ble_eq_true rfl) dX9_limit_30 (fun H locs hw => ?_)
      exact fin_i C hw (Option.some.inj hf) (fun o => o.1) (fun o => (dO G ad o.2 dw ++ [])) rfl rfl dX9_limit_33
  · replace hf := ifp hf hc
    refine r_aload0 C hl 0 rfl dX9_limit_12 ?_
    refine lv_iconst (v := 1) C.1 C.2.1 dX9_limit_13 (by decide) ?_
    obtain ⟨u10, e10, hf⟩ := bx hf
    refine r_callVi (ws' := (dO G ad u10.2 dw ++ [])) (As := [.int 1]) (rest := []) C hw hl.1 kX9_refused ml_X9_210 (c_X9_refused l G ad _ d_ad1 dw 1 u10 e10) (CutX.take dO_f CutX.none) _ (gx_h dO_o) rfl ⟨rfl, rfl⟩ ⟨Nat.le_of_ble_eq_true rfl, Nat.le_of_ble_eq_true rfl⟩ rfl ⟨Nat.zero_le _, Nat.zero_le _⟩ rfl (Nat.le_of_ble_eq_true rfl) dX9_limit_14 (fun H locs hw => ?_)
    exact fin_i C hw (Option.some.inj hf) (fun o => o.1) (fun o => (dO G ad o.2 dw ++ [])) rfl rfl dX9_limit_17
set_option maxHeartbeats 4000000 in
set_option maxRecDepth 100000 in
theorem c_X9_compact (l : Launch) (G : GG) (ad : Nat → Nat) (sz : Nat) (d_ad : Pic) (dw : Int64)  (out : Int32 × Pic) (hf : f_X9_compact d_ad = some out) : Met l yX9_compact (.code yX9_compact cX9_compact 1 (some .int) :: BT) ({ frames := 6, cells := 0, slots := 0, locals := 136 }) (va_Pc [.ref (ad 99)] (PreW G sz (dO G ad d_ad dw ++ []))) (Ans G out.1 (va_A (dO G ad d_ad dw ++ []) sz) (dO G ad out.2 dw ++ [])) 0 0 (va_A (dO G ad d_ad dw ++ []) sz) := by
  refine Met.into (by decide) (Nat.le_of_ble_eq_true rfl) ?_
  intro p e s m below meth c C hsz ls hl hw
  have hl : lv_has ls 1 [(0, .ref (ad 99))] := hl
  clear hsz
  generalize va_A (dO G ad d_ad dw ++ []) sz = A at hw ⊢
  unfold f_X9_compact at hf
  refine r_aload0 C hl 0 rfl dX9_compact_0 ?_
  refine lv_iconst (v := 0) C.1 C.2.1 dX9_compact_1 (by decide) ?_
  obtain ⟨d_ad1, e1, hf⟩ := bx hf
  refine r_put C hw _ (gx_h dO_o) 0 fp_X9_75 rfl rfl (Nat.le_of_ble_eq_true rfl) (dO G ad d_ad1 dw ++ []) (sx_h dO_o (dO_p0 e1)) dX9_compact_2 (fun H locs hw => ?_)
  refine r_aload0 C hl 0 rfl dX9_compact_5 ?_
  refine r_get C hw _ (gx_h dO_o) 19 fl_X9_225 rfl dX9_compact_6 ?_
  refine lv_if_ne (tgt := 18) C.1 C.2.1 dX9_compact_9 (by decide) (fun hc => ?_) (fun hc => ?_)
  · replace hf := ifn hf hc
    refine r_aload0 C hl 0 rfl dX9_compact_18 ?_
    obtain ⟨u2, e2, hf⟩ := bx hf
    refine r_callVv (ws' := (dO G ad u2 dw ++ [])) (As := []) (rest := []) C hw hl.1 kX9_remembers ml_X9_427 (c_X9_remembers l G ad _ d_ad1 dw u2 e2) (CutX.take dO_f CutX.none) _ (gx_h dO_o) rfl ⟨rfl, rfl⟩ ⟨Nat.le_of_ble_eq_true rfl, Nat.le_of_ble_eq_true rfl⟩ rfl ⟨Nat.zero_le _, Nat.zero_le _⟩ rfl (Nat.le_of_ble_eq_true rfl) dX9_compact_19 (fun H locs hw => ?_)
    refine r_aload0 C hl 0 rfl dX9_compact_22 ?_
    refine r_aload0 C hl 0 rfl dX9_compact_23 ?_
    obtain ⟨u3, e3, hf⟩ := bx hf
    refine r_callVi (ws' := (dO G ad u3.2 dw ++ [])) (As := []) (rest := [.ref (ad 99)]) C hw hl.1 kX9_compacts ml_X9_398 (c_X9_compacts l G ad _ u2 dw u3 e3) (CutX.take dO_f CutX.none) _ (gx_h dO_o) rfl ⟨rfl, rfl⟩ ⟨Nat.le_of_ble_eq_true rfl, Nat.le_of_ble_eq_true rfl⟩ rfl ⟨Nat.zero_le _, Nat.zero_le _⟩ rfl (Nat.le_of_ble_eq_true rfl) dX9_compact_24 (fun H locs hw => ?_)
    obtain ⟨u4, e4, hf⟩ := bx hf
    refine r_callVi (ws' := (dO G ad u4.2 dw ++ [])) (As := [.int u3.1]) (rest := []) C hw hl.1 kX9_good ml_X9_222 (c_X9_good l G ad _ u3.2 dw u3.1 u4 e4) (CutX.take dO_f CutX.none) _ (gx_h dO_o) rfl ⟨rfl, rfl⟩ ⟨Nat.le_of_ble_eq_true rfl, Nat.le_of_ble_eq_true rfl⟩ rfl ⟨Nat.zero_le _, Nat.zero_le _⟩ rfl (Nat.le_of_ble_eq_true rfl) dX9_compact_27 (fun H locs hw => ?_)
    exact fin_i C hw (Option.some.inj hf) (fun o => o.1) (fun o => (dO G ad o.2 dw ++ [])) rfl rfl dX9_compact_30
  · replace hf := ifp hf hc
    refine r_aload0 C hl 0 rfl dX9_compact_12 ?_
    refine lv_iconst (v := 1) C.1 C.2.1 dX9_compact_13 (by decide) ?_
    obtain ⟨u5, e5, hf⟩ := bx hf
    refine r_callVi (ws' := (dO G ad u5.2 dw ++ [])) (As := [.int 1]) (rest := []) C hw hl.1 kX9_refused ml_X9_210 (c_X9_refused l G ad _ d_ad1 dw 1 u5 e5) (CutX.take dO_f CutX.none) _ (gx_h dO_o) rfl ⟨rfl, rfl⟩ ⟨Nat.le_of_ble_eq_true rfl, Nat.le_of_ble_eq_true rfl⟩ rfl ⟨Nat.zero_le _, Nat.zero_le _⟩ rfl (Nat.le_of_ble_eq_true rfl) dX9_compact_14 (fun H locs hw => ?_)
    exact fin_i C hw (Option.some.inj hf) (fun o => o.1) (fun o => (dO G ad o.2 dw ++ [])) rfl rfl dX9_compact_17
set_option maxHeartbeats 4000000 in
set_option maxRecDepth 100000 in
theorem c_X9_run (l : Launch) (G : GG) (ad : Nat → Nat) (sz : Nat) (d_ad : Pic) (dw : Int64) (x1 : Int32) (x2 : Int32) (out : Int32 × Pic) (hf : f_X9_run d_ad x1 x2 = some out) : Met l yX9_run (.code yX9_run cX9_run 4 (some .int) :: BT) ({ frames := 7, cells := 0, slots := 0, locals := 157 }) (va_Pc [.ref (ad 99), .int x1, .int x2] (PreW G sz (dO G ad d_ad dw ++ []))) (Ans G out.1 (va_A (dO G ad d_ad dw ++ []) sz) (dO G ad out.2 dw ++ [])) 0 0 (va_A (dO G ad d_ad dw ++ []) sz) := by
  refine Met.into (by decide) (Nat.le_of_ble_eq_true rfl) ?_
  intro p e s m below meth c C hsz ls hl hw
  have hl : lv_has ls 4 [(0, .ref (ad 99)), (1, .int x1), (2, .int x2)] := hl
  clear hsz
  generalize va_A (dO G ad d_ad dw ++ []) sz = A at hw ⊢
  have hB_24 : ∀ (d_ad : Pic), b_X9_run_24 x1 x2  d_ad = some out → ∀ (H : Heap) (locs : List Loc), Wd G A s H locs (dO G ad d_ad dw ++ []) → ∀ ls : Array Slot, lv_has ls 4 [(0, .ref (ad 99))] → W p l e ({ frames := 7, cells := 0, slots := 0, locals := 157 }) s m [.ref (ad 99), .int x1, .int x2].toArray below meth c H locs 0 0 (MQ below (Ans G out.1 A (dO G ad out.2 dw ++ [])) [.ref (ad 99), .int x1, .int x2].toArray s 0 0 A) (F0 m 24 ls []) := by
    intro d_ad hf H locs hw ls hl
    unfold b_X9_run_24 at hf
    refine r_aload0 C hl 0 rfl dX9_run_24 ?_
    refine lv_iconst (v := 1) C.1 C.2.1 dX9_run_25 (by decide) ?_
    obtain ⟨u2, e2, hf⟩ := bx hf
    refine r_callVi (ws' := (dO G ad u2.2 dw ++ [])) (As := [.int 1]) (rest := []) C hw hl.1 kX9_refused ml_X9_210 (c_X9_refused l G ad _ d_ad dw 1 u2 e2) (CutX.take dO_f CutX.none) _ (gx_h dO_o) rfl ⟨rfl, rfl⟩ ⟨Nat.le_of_ble_eq_true rfl, Nat.le_of_ble_eq_true rfl⟩ rfl ⟨Nat.zero_le _, Nat.zero_le _⟩ rfl (Nat.le_of_ble_eq_true rfl) dX9_run_26 (fun H locs hw => ?_)
    exact fin_i C hw (Option.some.inj hf) (fun o => o.1) (fun o => (dO G ad o.2 dw ++ [])) rfl rfl dX9_run_29
  have hB_80 : ∀ (d_ad : Pic) (v3 : Int32), b_X9_run_80 x1 x2  d_ad v3 = some out → ∀ (H : Heap) (locs : List Loc), Wd G A s H locs (dO G ad d_ad dw ++ []) → ∀ ls : Array Slot, lv_has ls 4 [(0, .ref (ad 99)), (3, .int v3)] → W p l e ({ frames := 7, cells := 0, slots := 0, locals := 157 }) s m [.ref (ad 99), .int x1, .int x2].toArray below meth c H locs 0 0 (MQ below (Ans G out.1 A (dO G ad out.2 dw ++ [])) [.ref (ad 99), .int x1, .int x2].toArray s 0 0 A) (F0 m 80 ls []) := by
    intro d_ad v3 hf H locs hw ls hl
    unfold b_X9_run_80 at hf
    refine r_aload0 C hl 0 rfl dX9_run_80 ?_
    refine r_iload0 C hl 1 rfl dX9_run_81 ?_
    obtain ⟨u5, e5, hf⟩ := bx hf
    refine r_callVi (ws' := (dO G ad u5.2 dw ++ [])) (As := [.int v3]) (rest := []) C hw hl.1 kX9_good ml_X9_222 (c_X9_good l G ad _ d_ad dw v3 u5 e5) (CutX.take dO_f CutX.none) _ (gx_h dO_o) rfl ⟨rfl, rfl⟩ ⟨Nat.le_of_ble_eq_true rfl, Nat.le_of_ble_eq_true rfl⟩ rfl ⟨Nat.zero_le _, Nat.zero_le _⟩ rfl (Nat.le_of_ble_eq_true rfl) dX9_run_82 (fun H locs hw => ?_)
    exact fin_i C hw (Option.some.inj hf) (fun o => o.1) (fun o => (dO G ad o.2 dw ++ [])) rfl rfl dX9_run_85
  have hB_52 : ∀ (k52 : Pic → Int32 → Option (Int32 × Pic)) (hk52 : ∀ (d_ad : Pic) (v3 : Int32), k52 d_ad v3 = some out → ∀ (H : Heap) (locs : List Loc), Wd G A s H locs (dO G ad d_ad dw ++ []) → ∀ ls : Array Slot, lv_has ls 4 [(0, .ref (ad 99)), (1, .int x1), (2, .int x2), (3, .int v3)] → W p l e ({ frames := 7, cells := 0, slots := 0, locals := 157 }) s m [.ref (ad 99), .int x1, .int x2].toArray below meth c H locs 0 0 (MQ below (Ans G out.1 A (dO G ad out.2 dw ++ [])) [.ref (ad 99), .int x1, .int x2].toArray s 0 0 A) (F0 m 52 ls [])), ∀ (d_ad : Pic) (v3 : Int32), b_X9_run_52 x1 x2 k52 d_ad v3 = some out → ∀ (H : Heap) (locs : List Loc), Wd G A s H locs (dO G ad d_ad dw ++ []) → ∀ ls : Array Slot, lv_has ls 4 [(0, .ref (ad 99)), (1, .int x1), (2, .int x2), (3, .int v3)] → W p l e ({ frames := 7, cells := 0, slots := 0, locals := 157 }) s m [.ref (ad 99), .int x1, .int x2].toArray below meth c H locs 0 0 (MQ below (Ans G out.1 A (dO G ad out.2 dw ++ [])) [.ref (ad 99), .int x1, .int x2].toArray s 0 0 A) (F0 m 52 ls []) := by
    intro k52 hk52 d_ad v3 hf H locs hw ls hl
    unfold b_X9_run_52 at hf
    refine r_iload0 C hl 3 rfl dX9_run_52 ?_
    refine r_iload0 C hl 2 rfl dX9_run_53 ?_
    refine lv_icmp_ge (tgt := 80) C.1 C.2.1 dX9_run_54 (by decide) (fun hc => ?_) (fun hc => ?_)
    · replace hf := ifp hf hc
      exact hB_80  d_ad v3 hf _ _ hw _ (lv_sub hl [0, 3] rfl)
    · replace hf := ifn hf hc
      refine r_iload0 C hl 1 rfl dX9_run_57 ?_
      refine r_iload0 C hl 3 rfl dX9_run_58 ?_
      refine lv_iadd C.1 C.2.1 dX9_run_59 ?_
      refine r_aload0 C hl 0 rfl dX9_run_60 ?_
      refine r_get C hw _ (gx_h dO_o) 6 fl_X9_233 rfl dX9_run_61 ?_
      refine lv_icmp_ge (tgt := 80) C.1 C.2.1 dX9_run_64 (by decide) (fun hc => ?_) (fun hc => ?_)
      · replace hf := ifp hf hc
        exact hB_80  d_ad v3 hf _ _ hw _ (lv_sub hl [0, 3] rfl)
      · replace hf := ifn hf hc
        refine r_aload0 C hl 0 rfl dX9_run_67 ?_
        refine r_iload0 C hl 1 rfl dX9_run_68 ?_
        refine r_iload0 C hl 3 rfl dX9_run_69 ?_
        refine lv_iadd C.1 C.2.1 dX9_run_70 ?_
        obtain ⟨u6, e6, hf⟩ := bx hf
        refine r_callVv (ws' := (dO G ad u6 dw ++ [])) (As := [.int (x1 + v3)]) (rest := []) C hw hl.1 kX9_does ml_X9_420 (c_X9_does l G ad _ d_ad dw (x1 + v3) u6 e6) (CutX.take dO_f CutX.none) _ (gx_h dO_o) rfl ⟨rfl, rfl⟩ ⟨Nat.le_of_ble_eq_true rfl, Nat.le_of_ble_eq_true rfl⟩ rfl ⟨Nat.zero_le _, Nat.zero_le _⟩ rfl (Nat.le_of_ble_eq_true rfl) dX9_run_71 (fun H locs hw => ?_)
        refine r_iinc C hl 3 (v3 + 1) [(3, .int (v3 + 1)), (0, .ref (ad 99)), (1, .int x1), (2, .int x2)] rfl (iinc_e (by decide)) (by decide) rfl dX9_run_74 (fun ls hl => ?_)
        refine lv_goto (tgt := 52) C.1 C.2.1 dX9_run_77 (by decide) ?_
        exact hk52 u6 (v3 + 1) hf _ _ hw _ (lv_sub hl [1, 2, 3, 0] rfl)
  have hL_52 : ∀ n : Nat, ∀ (d_ad : Pic) (v3 : Int32), L_X9_run_52 x1 x2  n d_ad v3 = some out → ∀ (H : Heap) (locs : List Loc), Wd G A s H locs (dO G ad d_ad dw ++ []) → ∀ ls : Array Slot, lv_has ls 4 [(0, .ref (ad 99)), (1, .int x1), (2, .int x2), (3, .int v3)] → W p l e ({ frames := 7, cells := 0, slots := 0, locals := 157 }) s m [.ref (ad 99), .int x1, .int x2].toArray below meth c H locs 0 0 (MQ below (Ans G out.1 A (dO G ad out.2 dw ++ [])) [.ref (ad 99), .int x1, .int x2].toArray s 0 0 A) (F0 m 52 ls []) := by
    intro  n
    induction n with
    | zero => intro d_ad v3 hf; cases hf
    | succ n ih => exact hB_52 _ ih
  unfold f_X9_run at hf
  refine r_aload0 C hl 0 rfl dX9_run_0 ?_
  refine lv_iconst (v := 0) C.1 C.2.1 dX9_run_1 (by decide) ?_
  obtain ⟨d_ad1, e1, hf⟩ := bx hf
  refine r_put C hw _ (gx_h dO_o) 0 fp_X9_75 rfl rfl (Nat.le_of_ble_eq_true rfl) (dO G ad d_ad1 dw ++ []) (sx_h dO_o (dO_p0 e1)) dX9_run_2 (fun H locs hw => ?_)
  refine r_aload0 C hl 0 rfl dX9_run_5 ?_
  refine r_get C hw _ (gx_h dO_o) 19 fl_X9_225 rfl dX9_run_6 ?_
  refine lv_if_eq (tgt := 24) C.1 C.2.1 dX9_run_9 (by decide) (fun hc => ?_) (fun hc => ?_)
  · replace hf := ifp hf hc
    exact hB_24  d_ad1 hf _ _ hw _ (lv_sub hl [0] rfl)
  · replace hf := ifn hf hc
    refine r_iload0 C hl 1 rfl dX9_run_12 ?_
    refine lv_if_lt (tgt := 24) C.1 C.2.1 dX9_run_13 (by decide) (fun hc => ?_) (fun hc => ?_)
    · replace hf := ifp hf hc
      exact hB_24  d_ad1 hf _ _ hw _ (lv_sub hl [0] rfl)
    · replace hf := ifn hf hc
      refine r_iload0 C hl 1 rfl dX9_run_16 ?_
      refine r_aload0 C hl 0 rfl dX9_run_17 ?_
      refine r_get C hw _ (gx_h dO_o) 6 fl_X9_233 rfl dX9_run_18 ?_
      refine lv_icmp_lt (tgt := 30) C.1 C.2.1 dX9_run_21 (by decide) (fun hc => ?_) (fun hc => ?_)
      · replace hf := ifp hf hc
        refine r_iload0 C hl 2 rfl dX9_run_30 ?_
        refine lv_iconst (v := 1) C.1 C.2.1 dX9_run_31 (by decide) ?_
        refine lv_bipush (v := 24) C.1 C.2.1 dX9_run_32 (by decide) ?_
        obtain ⟨u3, e3, hf⟩ := bx hf
        refine r_callSi (ws' := (dO G ad d_ad1 dw ++ [])) (As := [.int x2, .int 1, .int 24]) (rest := []) C hw hl.1 kX9_in ml_X9_100 (c_X9_in l G _ x2 1 24 u3 e3) CutX.none ⟨rfl, rfl⟩ ⟨Nat.le_of_ble_eq_true rfl, Nat.le_of_ble_eq_true rfl⟩ rfl ⟨Nat.zero_le _, Nat.zero_le _⟩ rfl (Nat.le_of_ble_eq_true rfl) dX9_run_34 (fun H locs hw => ?_)
        refine lv_if_ne (tgt := 46) C.1 C.2.1 dX9_run_37 (by decide) (fun hc => ?_) (fun hc => ?_)
        · replace hf := ifn hf hc
          refine r_aload0 C hl 0 rfl dX9_run_46 ?_
          obtain ⟨u4, e4, hf⟩ := bx hf
          refine r_callVv (ws' := (dO G ad u4 dw ++ [])) (As := []) (rest := []) C hw hl.1 kX9_remembers ml_X9_427 (c_X9_remembers l G ad _ d_ad1 dw u4 e4) (CutX.take dO_f CutX.none) _ (gx_h dO_o) rfl ⟨rfl, rfl⟩ ⟨Nat.le_of_ble_eq_true rfl, Nat.le_of_ble_eq_true rfl⟩ rfl ⟨Nat.zero_le _, Nat.zero_le _⟩ rfl (Nat.le_of_ble_eq_true rfl) dX9_run_47 (fun H locs hw => ?_)
          refine lv_iconst (v := 0) C.1 C.2.1 dX9_run_50 (by decide) ?_
          refine r_istore0 C hl [(3, .int 0), (0, .ref (ad 99)), (1, .int x1), (2, .int x2)] (by decide) rfl dX9_run_51 (fun ls hl => ?_)
          exact hL_52  FU u4 0 hf _ _ hw _ (lv_sub hl [1, 2, 3, 0] rfl)
        · replace hf := ifp hf hc
          refine r_aload0 C hl 0 rfl dX9_run_40 ?_
          refine lv_iconst (v := 2) C.1 C.2.1 dX9_run_41 (by decide) ?_
          obtain ⟨u7, e7, hf⟩ := bx hf
          refine r_callVi (ws' := (dO G ad u7.2 dw ++ [])) (As := [.int 2]) (rest := []) C hw hl.1 kX9_refused ml_X9_210 (c_X9_refused l G ad _ d_ad1 dw 2 u7 e7) (CutX.take dO_f CutX.none) _ (gx_h dO_o) rfl ⟨rfl, rfl⟩ ⟨Nat.le_of_ble_eq_true rfl, Nat.le_of_ble_eq_true rfl⟩ rfl ⟨Nat.zero_le _, Nat.zero_le _⟩ rfl (Nat.le_of_ble_eq_true rfl) dX9_run_42 (fun H locs hw => ?_)
          exact fin_i C hw (Option.some.inj hf) (fun o => o.1) (fun o => (dO G ad o.2 dw ++ [])) rfl rfl dX9_run_45
      · replace hf := ifn hf hc
        exact hB_24  d_ad1 hf _ _ hw _ (lv_sub hl [0] rfl)
set_option maxHeartbeats 4000000 in
set_option maxRecDepth 100000 in
theorem c_X9_undo (l : Launch) (G : GG) (ad : Nat → Nat) (sz : Nat) (d_ad : Pic) (dw : Int64)  (out : Int32 × Pic) (hf : f_X9_undo d_ad = some out) : Met l yX9_undo (.code yX9_undo cX9_undo 2 (some .boolean) :: BT) ({ frames := 1, cells := 0, slots := 0, locals := 21 }) (va_Pc [.ref (ad 99)] (PreW G sz (dO G ad d_ad dw ++ []))) (Ans G out.1 (va_A (dO G ad d_ad dw ++ []) sz) (dO G ad out.2 dw ++ [])) 0 0 (va_A (dO G ad d_ad dw ++ []) sz) := by
  refine Met.into (by decide) (Nat.le_of_ble_eq_true rfl) ?_
  intro p e s m below meth c C hsz ls hl hw
  have hl : lv_has ls 2 [(0, .ref (ad 99))] := hl
  clear hsz
  generalize va_A (dO G ad d_ad dw ++ []) sz = A at hw ⊢
  have hB_19 : ∀ (d_ad : Pic), b_X9_undo_19   d_ad = some out → ∀ (H : Heap) (locs : List Loc), Wd G A s H locs (dO G ad d_ad dw ++ []) → ∀ ls : Array Slot, lv_has ls 2 [(0, .ref (ad 99))] → W p l e ({ frames := 1, cells := 0, slots := 0, locals := 21 }) s m [.ref (ad 99)].toArray below meth c H locs 0 0 (MQ below (Ans G out.1 A (dO G ad out.2 dw ++ [])) [.ref (ad 99)].toArray s 0 0 A) (F0 m 19 ls []) := by
    intro d_ad hf H locs hw ls hl
    unfold b_X9_undo_19 at hf
    refine r_aload0 C hl 0 rfl dX9_undo_19 ?_
    refine lv_iconst (v := 1) C.1 C.2.1 dX9_undo_20 (by decide) ?_
    obtain ⟨u2, e2, hf⟩ := bx hf
    refine r_callVi (ws' := (dO G ad u2.2 dw ++ [])) (As := [.int 1]) (rest := []) C hw hl.1 kX9_refused ml_X9_210 (c_X9_refused l G ad _ d_ad dw 1 u2 e2) (CutX.take dO_f CutX.none) _ (gx_h dO_o) rfl ⟨rfl, rfl⟩ ⟨Nat.le_of_ble_eq_true rfl, Nat.le_of_ble_eq_true rfl⟩ rfl ⟨Nat.zero_le _, Nat.zero_le _⟩ rfl (Nat.le_of_ble_eq_true rfl) dX9_undo_21 (fun H locs hw => ?_)
    refine lv_pop C.1 C.2.1 dX9_undo_24 rfl ?_
    refine lv_iconst (v := 0) C.1 C.2.1 dX9_undo_25 (by decide) ?_
    exact fin_z C hw (by decide) (Option.some.inj hf) (fun o => o.1) (fun o => (dO G ad o.2 dw ++ [])) rfl rfl dX9_undo_26
  have hB_39 : ∀ (k39 : Pic → Int32 → Option (Int32 × Pic)) (hk39 : ∀ (d_ad : Pic) (v1 : Int32), k39 d_ad v1 = some out → ∀ (H : Heap) (locs : List Loc), Wd G A s H locs (dO G ad d_ad dw ++ []) → ∀ ls : Array Slot, lv_has ls 2 [(0, .ref (ad 99)), (1, .int v1)] → W p l e ({ frames := 1, cells := 0, slots := 0, locals := 21 }) s m [.ref (ad 99)].toArray below meth c H locs 0 0 (MQ below (Ans G out.1 A (dO G ad out.2 dw ++ [])) [.ref (ad 99)].toArray s 0 0 A) (F0 m 39 ls [])), ∀ (d_ad : Pic) (v1 : Int32), b_X9_undo_39  k39 d_ad v1 = some out → ∀ (H : Heap) (locs : List Loc), Wd G A s H locs (dO G ad d_ad dw ++ []) → ∀ ls : Array Slot, lv_has ls 2 [(0, .ref (ad 99)), (1, .int v1)] → W p l e ({ frames := 1, cells := 0, slots := 0, locals := 21 }) s m [.ref (ad 99)].toArray below meth c H locs 0 0 (MQ below (Ans G out.1 A (dO G ad out.2 dw ++ [])) [.ref (ad 99)].toArray s 0 0 A) (F0 m 39 ls []) := by
    intro k39 hk39 d_ad v1 hf H locs hw ls hl
    unfold b_X9_undo_39 at hf
    refine r_iload0 C hl 1 rfl dX9_undo_39 ?_
    refine lv_sipush (v := 1234) C.1 C.2.1 dX9_undo_40 (by decide) ?_
    refine lv_icmp_ge (tgt := 73) C.1 C.2.1 dX9_undo_43 (by decide) (fun hc => ?_) (fun hc => ?_)
    · replace hf := ifp hf hc
      refine r_aload0 C hl 0 rfl dX9_undo_73 ?_
      refine lv_iconst (v := 0) C.1 C.2.1 dX9_undo_74 (by decide) ?_
      obtain ⟨u4, e4, hf⟩ := bx hf
      refine r_callVi (ws' := (dO G ad u4.2 dw ++ [])) (As := [.int 0]) (rest := []) C hw hl.1 kX9_good ml_X9_222 (c_X9_good l G ad _ d_ad dw 0 u4 e4) (CutX.take dO_f CutX.none) _ (gx_h dO_o) rfl ⟨rfl, rfl⟩ ⟨Nat.le_of_ble_eq_true rfl, Nat.le_of_ble_eq_true rfl⟩ rfl ⟨Nat.zero_le _, Nat.zero_le _⟩ rfl (Nat.le_of_ble_eq_true rfl) dX9_undo_75 (fun H locs hw => ?_)
      refine lv_pop C.1 C.2.1 dX9_undo_78 rfl ?_
      refine lv_iconst (v := 1) C.1 C.2.1 dX9_undo_79 (by decide) ?_
      exact fin_z C hw (by decide) (Option.some.inj hf) (fun o => o.1) (fun o => (dO G ad o.2 dw ++ [])) rfl rfl dX9_undo_80
    · replace hf := ifn hf hc
      refine r_aload0 C hl 0 rfl dX9_undo_46 ?_
      refine r_get C hw _ (gx_h dO_o) 20 fl_X9_35 rfl dX9_undo_47 ?_
      refine r_iload0 C hl 1 rfl dX9_undo_50 ?_
      refine r_aload0 C hl 0 rfl dX9_undo_51 ?_
      refine r_get C hw _ (gx_h dO_o) 22 fl_X9_41 rfl dX9_undo_52 ?_
      refine lv_sipush (v := 1234) C.1 C.2.1 dX9_undo_55 (by decide) ?_
      refine r_aload0 C hl 0 rfl dX9_undo_58 ?_
      refine r_get C hw _ (gx_h dO_o) 23 fl_X9_239 rfl dX9_undo_59 ?_
      refine lv_imul C.1 C.2.1 dX9_undo_62 ?_
      refine r_iload0 C hl 1 rfl dX9_undo_63 ?_
      refine lv_iadd C.1 C.2.1 dX9_undo_64 ?_
      obtain ⟨v5_, e5, hf⟩ := bx hf
      refine r_iald C hw _ (gx_h dO_g22) e5 dX9_undo_65 ?_
      obtain ⟨d_ad6, e6, hf⟩ := bx hf
      refine r_iast C hw _ (gx_h dO_g20) e6 (dO G ad d_ad6 dw ++ []) (fun h => (sx_h dO_g20 (dO_s20 h))) dX9_undo_66 (fun H locs hw => ?_)
      refine r_iinc C hl 1 (v1 + 1) [(1, .int (v1 + 1)), (0, .ref (ad 99))] rfl (iinc_e (by decide)) (by decide) rfl dX9_undo_67 (fun ls hl => ?_)
      refine lv_goto (tgt := 39) C.1 C.2.1 dX9_undo_70 (by decide) ?_
      exact hk39 d_ad6 (v1 + 1) hf _ _ hw _ (lv_sub hl [1, 0] rfl)
  have hL_39 : ∀ n : Nat, ∀ (d_ad : Pic) (v1 : Int32), L_X9_undo_39   n d_ad v1 = some out → ∀ (H : Heap) (locs : List Loc), Wd G A s H locs (dO G ad d_ad dw ++ []) → ∀ ls : Array Slot, lv_has ls 2 [(0, .ref (ad 99)), (1, .int v1)] → W p l e ({ frames := 1, cells := 0, slots := 0, locals := 21 }) s m [.ref (ad 99)].toArray below meth c H locs 0 0 (MQ below (Ans G out.1 A (dO G ad out.2 dw ++ [])) [.ref (ad 99)].toArray s 0 0 A) (F0 m 39 ls []) := by
    intro  n
    induction n with
    | zero => intro d_ad v1 hf; cases hf
    | succ n ih => exact hB_39 _ ih
  unfold f_X9_undo at hf
  refine r_aload0 C hl 0 rfl dX9_undo_0 ?_
  refine lv_iconst (v := 0) C.1 C.2.1 dX9_undo_1 (by decide) ?_
  obtain ⟨d_ad1, e1, hf⟩ := bx hf
  refine r_put C hw _ (gx_h dO_o) 0 fp_X9_75 rfl rfl (Nat.le_of_ble_eq_true rfl) (dO G ad d_ad1 dw ++ []) (sx_h dO_o (dO_p0 e1)) dX9_undo_2 (fun H locs hw => ?_)
  refine r_aload0 C hl 0 rfl dX9_undo_5 ?_
  refine r_get C hw _ (gx_h dO_o) 19 fl_X9_225 rfl dX9_undo_6 ?_
  refine lv_if_eq (tgt := 19) C.1 C.2.1 dX9_undo_9 (by decide) (fun hc => ?_) (fun hc => ?_)
  · replace hf := ifp hf hc
    exact hB_19  d_ad1 hf _ _ hw _ (lv_sub hl [0] rfl)
  · replace hf := ifn hf hc
    refine r_aload0 C hl 0 rfl dX9_undo_12 ?_
    refine r_get C hw _ (gx_h dO_o) 23 fl_X9_239 rfl dX9_undo_13 ?_
    refine lv_if_ne (tgt := 27) C.1 C.2.1 dX9_undo_16 (by decide) (fun hc => ?_) (fun hc => ?_)
    · replace hf := ifn hf hc
      refine r_aload0 C hl 0 rfl dX9_undo_27 ?_
      refine lv_dup C.1 C.2.1 dX9_undo_28 rfl ?_
      refine r_get C hw _ (gx_h dO_o) 23 fl_X9_239 rfl dX9_undo_29 ?_
      refine lv_iconst (v := 1) C.1 C.2.1 dX9_undo_32 (by decide) ?_
      refine lv_isub C.1 C.2.1 dX9_undo_33 ?_
      obtain ⟨d_ad3, e3, hf⟩ := bx hf
      refine r_put C hw _ (gx_h dO_o) 23 fp_X9_239 rfl rfl (Nat.le_of_ble_eq_true rfl) (dO G ad d_ad3 dw ++ []) (sx_h dO_o (dO_p23 e3)) dX9_undo_34 (fun H locs hw => ?_)
      refine lv_iconst (v := 0) C.1 C.2.1 dX9_undo_37 (by decide) ?_
      refine r_istore0 C hl [(1, .int 0), (0, .ref (ad 99))] (by decide) rfl dX9_undo_38 (fun ls hl => ?_)
      exact hL_39  FU d_ad3 0 hf _ _ hw _ (lv_sub hl [1, 0] rfl)
    · replace hf := ifp hf hc
      exact hB_19  d_ad1 hf _ _ hw _ (lv_sub hl [0] rfl)
