set_option maxHeartbeats 4000000 in
set_option maxRecDepth 100000 in
theorem c_X9_dataAt (l : Launch) (G : GG)  (sz : Nat)  (x0 : Int32) (out : Int32) (hf : f_X9_dataAt x0 = some out) : Met l yX9_dataAt (.code yX9_dataAt cX9_dataAt 1 (some .int) :: BT) ({ frames := 0, cells := 0, slots := 0, locals := 0 }) (va_Pc [.int x0] (PreW G sz [])) (Ans G out (va_A [] sz) []) 0 0 (va_A [] sz) := by
  refine Met.into (by decide) (Nat.le_of_ble_eq_true rfl) ?_
  intro p e s m below meth c C hsz ls hl hw
  have hl : lv_has ls 1 [(0, .int x0)] := hl
  clear hsz
  generalize va_A [] sz = A at hw ⊢
  unfold f_X9_dataAt at hf
  refine lv_iconst (v := 5) C.1 C.2.1 dX9_dataAt_0 (by decide) ?_
  refine lv_bipush (v := 16) C.1 C.2.1 dX9_dataAt_1 (by decide) ?_
  refine r_iload0 C hl 0 rfl dX9_dataAt_3 ?_
  refine lv_imul C.1 C.2.1 dX9_dataAt_4 ?_
  refine lv_iadd C.1 C.2.1 dX9_dataAt_5 ?_
  exact fin_i C hw (Option.some.inj hf) (fun o => o) (fun o => []) rfl rfl dX9_dataAt_6
set_option maxHeartbeats 4000000 in
set_option maxRecDepth 100000 in
theorem c_X9_cell (l : Launch) (G : GG) (ad : Nat → Nat) (sz : Nat) (d_ad : Pic) (dw : Int64) (x1 : Int32) (x2 : Int32) (out : Int32 × Pic) (hf : f_X9_cell d_ad x1 x2 = some out) : Met l yX9_cell (.code yX9_cell cX9_cell 3 (some .int) :: BT) ({ frames := 1, cells := 0, slots := 0, locals := 22 }) (va_Pc [.ref (ad 99), .int x1, .int x2] (PreW G sz (dO G ad d_ad dw ++ []))) (Ans G out.1 (va_A (dO G ad d_ad dw ++ []) sz) (dO G ad out.2 dw ++ [])) 0 0 (va_A (dO G ad d_ad dw ++ []) sz) := by
  refine Met.into (by decide) (Nat.le_of_ble_eq_true rfl) ?_
  intro p e s m below meth c C hsz ls hl hw
  have hl : lv_has ls 3 [(0, .ref (ad 99)), (1, .int x1), (2, .int x2)] := hl
  clear hsz
  generalize va_A (dO G ad d_ad dw ++ []) sz = A at hw ⊢
  have hB_23 : ∀ (d_ad : Pic), b_X9_cell_23 x1 x2  d_ad = some out → ∀ (H : Heap) (locs : List Loc), Wd G A s H locs (dO G ad d_ad dw ++ []) → ∀ ls : Array Slot, lv_has ls 3 [(0, .ref (ad 99))] → W p l e ({ frames := 1, cells := 0, slots := 0, locals := 22 }) s m [.ref (ad 99), .int x1, .int x2].toArray below meth c H locs 0 0 (MQ below (Ans G out.1 A (dO G ad out.2 dw ++ [])) [.ref (ad 99), .int x1, .int x2].toArray s 0 0 A) (F0 m 23 ls []) := by
    intro d_ad hf H locs hw ls hl
    unfold b_X9_cell_23 at hf
    refine r_aload0 C hl 0 rfl dX9_cell_23 ?_
    refine lv_iconst (v := 1) C.1 C.2.1 dX9_cell_24 (by decide) ?_
    obtain ⟨u3, e3, hf⟩ := bx hf
    refine r_callVi (ws' := (dO G ad u3.2 dw ++ [])) (As := [.int 1]) (rest := []) C hw hl.1 kX9_refused ml_X9_210 (c_X9_refused l G ad _ d_ad dw 1 u3 e3) (CutX.take dO_f CutX.none) _ (gx_h dO_o) rfl ⟨rfl, rfl⟩ ⟨Nat.le_of_ble_eq_true rfl, Nat.le_of_ble_eq_true rfl⟩ rfl ⟨Nat.zero_le _, Nat.zero_le _⟩ rfl (Nat.le_of_ble_eq_true rfl) dX9_cell_25 (fun H locs hw => ?_)
    exact fin_i C hw (Option.some.inj hf) (fun o => o.1) (fun o => (dO G ad o.2 dw ++ [])) rfl rfl dX9_cell_28
  unfold f_X9_cell at hf
  refine r_aload0 C hl 0 rfl dX9_cell_0 ?_
  refine lv_iconst (v := 0) C.1 C.2.1 dX9_cell_1 (by decide) ?_
  obtain ⟨d_ad1, e1, hf⟩ := bx hf
  refine r_put C hw _ (gx_h dO_o) 0 fp_X9_75 rfl rfl (Nat.le_of_ble_eq_true rfl) (dO G ad d_ad1 dw ++ []) (sx_h dO_o (dO_p0 e1)) dX9_cell_2 (fun H locs hw => ?_)
  refine r_aload0 C hl 0 rfl dX9_cell_5 ?_
  refine r_iload0 C hl 1 rfl dX9_cell_6 ?_
  obtain ⟨u2, e2, hf⟩ := bx hf
  refine r_callVi (ws' := (dO G ad d_ad1 dw ++ [])) (As := [.int x1]) (rest := []) C hw hl.1 kX9_isData ml_X9_271 (c_X9_isData l G ad _ d_ad1 dw x1 u2 e2) (CutX.take dO_f CutX.none) _ (gx_h dO_o) rfl ⟨rfl, rfl⟩ ⟨Nat.le_of_ble_eq_true rfl, Nat.le_of_ble_eq_true rfl⟩ rfl ⟨Nat.zero_le _, Nat.zero_le _⟩ rfl (Nat.le_of_ble_eq_true rfl) dX9_cell_7 (fun H locs hw => ?_)
  refine lv_if_eq (tgt := 23) C.1 C.2.1 dX9_cell_10 (by decide) (fun hc => ?_) (fun hc => ?_)
  · replace hf := ifp hf hc
    exact hB_23  d_ad1 hf _ _ hw _ (lv_sub hl [0] rfl)
  · replace hf := ifn hf hc
    refine r_iload0 C hl 2 rfl dX9_cell_13 ?_
    refine lv_iconst (v := 0) C.1 C.2.1 dX9_cell_14 (by decide) ?_
    refine lv_bipush (v := 15) C.1 C.2.1 dX9_cell_15 (by decide) ?_
    obtain ⟨u4, e4, hf⟩ := bx hf
    refine r_callSi (ws' := (dO G ad d_ad1 dw ++ [])) (As := [.int x2, .int 0, .int 15]) (rest := []) C hw hl.1 kX9_in ml_X9_100 (c_X9_in l G _ x2 0 15 u4 e4) CutX.none ⟨rfl, rfl⟩ ⟨Nat.le_of_ble_eq_true rfl, Nat.le_of_ble_eq_true rfl⟩ rfl ⟨Nat.zero_le _, Nat.zero_le _⟩ rfl (Nat.le_of_ble_eq_true rfl) dX9_cell_17 (fun H locs hw => ?_)
    refine lv_if_ne (tgt := 29) C.1 C.2.1 dX9_cell_20 (by decide) (fun hc => ?_) (fun hc => ?_)
    · replace hf := ifn hf hc
      refine r_aload0 C hl 0 rfl dX9_cell_29 ?_
      refine r_aload0 C hl 0 rfl dX9_cell_30 ?_
      refine r_get C hw _ (gx_h dO_o) 20 fl_X9_35 rfl dX9_cell_31 ?_
      refine r_iload0 C hl 1 rfl dX9_cell_34 ?_
      obtain ⟨u5, e5, hf⟩ := bx hf
      refine r_callSi (ws' := (dO G ad d_ad1 dw ++ [])) (As := [.int x1]) (rest := [.ref (ad 20), .ref (ad 99)]) C hw hl.1 kX9_dataAt ml_X9_274 (c_X9_dataAt l G _ x1 u5 e5) CutX.none ⟨rfl, rfl⟩ ⟨Nat.le_of_ble_eq_true rfl, Nat.le_of_ble_eq_true rfl⟩ rfl ⟨Nat.zero_le _, Nat.zero_le _⟩ rfl (Nat.le_of_ble_eq_true rfl) dX9_cell_35 (fun H locs hw => ?_)
      refine r_iload0 C hl 2 rfl dX9_cell_38 ?_
      refine lv_iadd C.1 C.2.1 dX9_cell_39 ?_
      obtain ⟨v6_, e6, hf⟩ := bx hf
      refine r_iald C hw _ (gx_h dO_g20) e6 dX9_cell_40 ?_
      obtain ⟨u7, e7, hf⟩ := bx hf
      refine r_callVi (ws' := (dO G ad u7.2 dw ++ [])) (As := [.int v6_]) (rest := []) C hw hl.1 kX9_good ml_X9_222 (c_X9_good l G ad _ d_ad1 dw v6_ u7 e7) (CutX.take dO_f CutX.none) _ (gx_h dO_o) rfl ⟨rfl, rfl⟩ ⟨Nat.le_of_ble_eq_true rfl, Nat.le_of_ble_eq_true rfl⟩ rfl ⟨Nat.zero_le _, Nat.zero_le _⟩ rfl (Nat.le_of_ble_eq_true rfl) dX9_cell_41 (fun H locs hw => ?_)
      exact fin_i C hw (Option.some.inj hf) (fun o => o.1) (fun o => (dO G ad o.2 dw ++ [])) rfl rfl dX9_cell_44
    · replace hf := ifp hf hc
      exact hB_23  d_ad1 hf _ _ hw _ (lv_sub hl [0] rfl)
set_option maxHeartbeats 4000000 in
set_option maxRecDepth 100000 in
theorem c_X9_squeezed (l : Launch) (G : GG) (ad : Nat → Nat) (sz : Nat) (d_ad : Pic) (dw : Int64) (x1 : Int32) (out : Int32 × Pic) (hf : f_X9_squeezed d_ad x1 = some out) : Met l yX9_squeezed (.code yX9_squeezed cX9_squeezed 2 (some .int) :: BT) ({ frames := 3, cells := 0, slots := 0, locals := 70 }) (va_Pc [.ref (ad 99), .int x1] (PreW G sz (dO G ad d_ad dw ++ []))) (Ans G out.1 (va_A (dO G ad d_ad dw ++ []) sz) (dO G ad out.2 dw ++ [])) 0 0 (va_A (dO G ad d_ad dw ++ []) sz) := by
  refine Met.into (by decide) (Nat.le_of_ble_eq_true rfl) ?_
  intro p e s m below meth c C hsz ls hl hw
  have hl : lv_has ls 2 [(0, .ref (ad 99)), (1, .int x1)] := hl
  clear hsz
  generalize va_A (dO G ad d_ad dw ++ []) sz = A at hw ⊢
  unfold f_X9_squeezed at hf
  refine r_aload0 C hl 0 rfl dX9_squeezed_0 ?_
  refine lv_iconst (v := 0) C.1 C.2.1 dX9_squeezed_1 (by decide) ?_
  obtain ⟨d_ad1, e1, hf⟩ := bx hf
  refine r_put C hw _ (gx_h dO_o) 0 fp_X9_75 rfl rfl (Nat.le_of_ble_eq_true rfl) (dO G ad d_ad1 dw ++ []) (sx_h dO_o (dO_p0 e1)) dX9_squeezed_2 (fun H locs hw => ?_)
  refine r_aload0 C hl 0 rfl dX9_squeezed_5 ?_
  refine r_iload0 C hl 1 rfl dX9_squeezed_6 ?_
  obtain ⟨u2, e2, hf⟩ := bx hf
  refine r_callVi (ws' := (dO G ad d_ad1 dw ++ [])) (As := [.int x1]) (rest := []) C hw hl.1 kX9_isData ml_X9_271 (c_X9_isData l G ad _ d_ad1 dw x1 u2 e2) (CutX.take dO_f CutX.none) _ (gx_h dO_o) rfl ⟨rfl, rfl⟩ ⟨Nat.le_of_ble_eq_true rfl, Nat.le_of_ble_eq_true rfl⟩ rfl ⟨Nat.zero_le _, Nat.zero_le _⟩ rfl (Nat.le_of_ble_eq_true rfl) dX9_squeezed_7 (fun H locs hw => ?_)
  refine lv_if_eq (tgt := 28) C.1 C.2.1 dX9_squeezed_10 (by decide) (fun hc => ?_) (fun hc => ?_)
  · replace hf := ifp hf hc
    refine r_aload0 C hl 0 rfl dX9_squeezed_28 ?_
    refine lv_iconst (v := 1) C.1 C.2.1 dX9_squeezed_29 (by decide) ?_
    obtain ⟨u3, e3, hf⟩ := bx hf
    refine r_callVi (ws' := (dO G ad u3.2 dw ++ [])) (As := [.int 1]) (rest := []) C hw hl.1 kX9_refused ml_X9_210 (c_X9_refused l G ad _ d_ad1 dw 1 u3 e3) (CutX.take dO_f CutX.none) _ (gx_h dO_o) rfl ⟨rfl, rfl⟩ ⟨Nat.le_of_ble_eq_true rfl, Nat.le_of_ble_eq_true rfl⟩ rfl ⟨Nat.zero_le _, Nat.zero_le _⟩ rfl (Nat.le_of_ble_eq_true rfl) dX9_squeezed_30 (fun H locs hw => ?_)
    exact fin_i C hw (Option.some.inj hf) (fun o => o.1) (fun o => (dO G ad o.2 dw ++ [])) rfl rfl dX9_squeezed_33
  · replace hf := ifn hf hc
    refine r_aload0 C hl 0 rfl dX9_squeezed_13 ?_
    refine r_aload0 C hl 0 rfl dX9_squeezed_14 ?_
    refine r_iload0 C hl 1 rfl dX9_squeezed_15 ?_
    obtain ⟨u4, e4, hf⟩ := bx hf
    refine r_callSi (ws' := (dO G ad d_ad1 dw ++ [])) (As := [.int x1]) (rest := [.ref (ad 99), .ref (ad 99)]) C hw hl.1 kX9_dataAt ml_X9_274 (c_X9_dataAt l G _ x1 u4 e4) CutX.none ⟨rfl, rfl⟩ ⟨Nat.le_of_ble_eq_true rfl, Nat.le_of_ble_eq_true rfl⟩ rfl ⟨Nat.zero_le _, Nat.zero_le _⟩ rfl (Nat.le_of_ble_eq_true rfl) dX9_squeezed_16 (fun H locs hw => ?_)
    obtain ⟨u5, e5, hf⟩ := bx hf
    refine r_callVi (ws' := (dO G ad u5.2 dw ++ [])) (As := [.int u4]) (rest := [.ref (ad 99)]) C hw hl.1 kX9_cutAll ml_X9_277 (c_X9_cutAll l G ad _ d_ad1 dw u4 u5 e5) (CutX.take dO_f CutX.none) _ (gx_h dO_o) rfl ⟨rfl, rfl⟩ ⟨Nat.le_of_ble_eq_true rfl, Nat.le_of_ble_eq_true rfl⟩ rfl ⟨Nat.zero_le _, Nat.zero_le _⟩ rfl (Nat.le_of_ble_eq_true rfl) dX9_squeezed_19 (fun H locs hw => ?_)
    obtain ⟨u6, e6, hf⟩ := bx hf
    refine r_callVi (ws' := (dO G ad u6.2 dw ++ [])) (As := [.int u5.1]) (rest := []) C hw hl.1 kX9_good ml_X9_222 (c_X9_good l G ad _ u5.2 dw u5.1 u6 e6) (CutX.take dO_f CutX.none) _ (gx_h dO_o) rfl ⟨rfl, rfl⟩ ⟨Nat.le_of_ble_eq_true rfl, Nat.le_of_ble_eq_true rfl⟩ rfl ⟨Nat.zero_le _, Nat.zero_le _⟩ rfl (Nat.le_of_ble_eq_true rfl) dX9_squeezed_22 (fun H locs hw => ?_)
    refine lv_goto (tgt := 33) C.1 C.2.1 dX9_squeezed_25 (by decide) ?_
    exact fin_i C hw (Option.some.inj hf) (fun o => o.1) (fun o => (dO G ad o.2 dw ++ [])) rfl rfl dX9_squeezed_33
set_option maxHeartbeats 4000000 in
set_option maxRecDepth 100000 in
theorem c_X9_pieces (l : Launch) (G : GG) (ad : Nat → Nat) (sz : Nat) (d_ad : Pic) (dw : Int64) (x1 : Int32) (out : Int32 × Pic) (hf : f_X9_pieces d_ad x1 = some out) : Met l yX9_pieces (.code yX9_pieces cX9_pieces 2 (some .int) :: BT) ({ frames := 3, cells := 0, slots := 0, locals := 70 }) (va_Pc [.ref (ad 99), .int x1] (PreW G sz (dO G ad d_ad dw ++ []))) (Ans G out.1 (va_A (dO G ad d_ad dw ++ []) sz) (dO G ad out.2 dw ++ [])) 0 0 (va_A (dO G ad d_ad dw ++ []) sz) := by
  refine Met.into (by decide) (Nat.le_of_ble_eq_true rfl) ?_
  intro p e s m below meth c C hsz ls hl hw
  have hl : lv_has ls 2 [(0, .ref (ad 99)), (1, .int x1)] := hl
  clear hsz
  generalize va_A (dO G ad d_ad dw ++ []) sz = A at hw ⊢
  unfold f_X9_pieces at hf
  refine r_aload0 C hl 0 rfl dX9_pieces_0 ?_
  refine lv_iconst (v := 0) C.1 C.2.1 dX9_pieces_1 (by decide) ?_
  obtain ⟨d_ad1, e1, hf⟩ := bx hf
  refine r_put C hw _ (gx_h dO_o) 0 fp_X9_75 rfl rfl (Nat.le_of_ble_eq_true rfl) (dO G ad d_ad1 dw ++ []) (sx_h dO_o (dO_p0 e1)) dX9_pieces_2 (fun H locs hw => ?_)
  refine r_aload0 C hl 0 rfl dX9_pieces_5 ?_
  refine r_iload0 C hl 1 rfl dX9_pieces_6 ?_
  obtain ⟨u2, e2, hf⟩ := bx hf
  refine r_callVi (ws' := (dO G ad d_ad1 dw ++ [])) (As := [.int x1]) (rest := []) C hw hl.1 kX9_isData ml_X9_271 (c_X9_isData l G ad _ d_ad1 dw x1 u2 e2) (CutX.take dO_f CutX.none) _ (gx_h dO_o) rfl ⟨rfl, rfl⟩ ⟨Nat.le_of_ble_eq_true rfl, Nat.le_of_ble_eq_true rfl⟩ rfl ⟨Nat.zero_le _, Nat.zero_le _⟩ rfl (Nat.le_of_ble_eq_true rfl) dX9_pieces_7 (fun H locs hw => ?_)
  refine lv_if_ne (tgt := 19) C.1 C.2.1 dX9_pieces_10 (by decide) (fun hc => ?_) (fun hc => ?_)
  · replace hf := ifn hf hc
    refine r_aload0 C hl 0 rfl dX9_pieces_19 ?_
    refine r_iload0 C hl 1 rfl dX9_pieces_20 ?_
    obtain ⟨u3, e3, hf⟩ := bx hf
    refine r_callSi (ws' := (dO G ad d_ad1 dw ++ [])) (As := [.int x1]) (rest := [.ref (ad 99)]) C hw hl.1 kX9_dataAt ml_X9_274 (c_X9_dataAt l G _ x1 u3 e3) CutX.none ⟨rfl, rfl⟩ ⟨Nat.le_of_ble_eq_true rfl, Nat.le_of_ble_eq_true rfl⟩ rfl ⟨Nat.zero_le _, Nat.zero_le _⟩ rfl (Nat.le_of_ble_eq_true rfl) dX9_pieces_21 (fun H locs hw => ?_)
    obtain ⟨u4, e4, hf⟩ := bx hf
    refine r_callVi (ws' := (dO G ad u4.2 dw ++ [])) (As := [.int u3]) (rest := []) C hw hl.1 kX9_cutAll ml_X9_277 (c_X9_cutAll l G ad _ d_ad1 dw u3 u4 e4) (CutX.take dO_f CutX.none) _ (gx_h dO_o) rfl ⟨rfl, rfl⟩ ⟨Nat.le_of_ble_eq_true rfl, Nat.le_of_ble_eq_true rfl⟩ rfl ⟨Nat.zero_le _, Nat.zero_le _⟩ rfl (Nat.le_of_ble_eq_true rfl) dX9_pieces_24 (fun H locs hw => ?_)
    refine lv_pop C.1 C.2.1 dX9_pieces_27 rfl ?_
    refine r_aload0 C hl 0 rfl dX9_pieces_28 ?_
    refine r_aload0 C hl 0 rfl dX9_pieces_29 ?_
    refine r_get C hw _ (gx_h dO_o) 40 fl_X9_252 rfl dX9_pieces_30 ?_
    obtain ⟨u5, e5, hf⟩ := bx hf
    refine r_callVi (ws' := (dO G ad u5.2 dw ++ [])) (As := [.int (gS u4.2 40)]) (rest := []) C hw hl.1 kX9_good ml_X9_222 (c_X9_good l G ad _ u4.2 dw (gS u4.2 40) u5 e5) (CutX.take dO_f CutX.none) _ (gx_h dO_o) rfl ⟨rfl, rfl⟩ ⟨Nat.le_of_ble_eq_true rfl, Nat.le_of_ble_eq_true rfl⟩ rfl ⟨Nat.zero_le _, Nat.zero_le _⟩ rfl (Nat.le_of_ble_eq_true rfl) dX9_pieces_33 (fun H locs hw => ?_)
    exact fin_i C hw (Option.some.inj hf) (fun o => o.1) (fun o => (dO G ad o.2 dw ++ [])) rfl rfl dX9_pieces_36
  · replace hf := ifp hf hc
    refine r_aload0 C hl 0 rfl dX9_pieces_13 ?_
    refine lv_iconst (v := 1) C.1 C.2.1 dX9_pieces_14 (by decide) ?_
    obtain ⟨u6, e6, hf⟩ := bx hf
    refine r_callVi (ws' := (dO G ad u6.2 dw ++ [])) (As := [.int 1]) (rest := []) C hw hl.1 kX9_refused ml_X9_210 (c_X9_refused l G ad _ d_ad1 dw 1 u6 e6) (CutX.take dO_f CutX.none) _ (gx_h dO_o) rfl ⟨rfl, rfl⟩ ⟨Nat.le_of_ble_eq_true rfl, Nat.le_of_ble_eq_true rfl⟩ rfl ⟨Nat.zero_le _, Nat.zero_le _⟩ rfl (Nat.le_of_ble_eq_true rfl) dX9_pieces_15 (fun H locs hw => ?_)
    exact fin_i C hw (Option.some.inj hf) (fun o => o.1) (fun o => (dO G ad o.2 dw ++ [])) rfl rfl dX9_pieces_18
set_option maxHeartbeats 4000000 in
set_option maxRecDepth 100000 in
theorem c_X9_piece (l : Launch) (G : GG) (ad : Nat → Nat) (sz : Nat) (d_ad : Pic) (dw : Int64) (x1 : Int32) (x2 : Int32) (x3 : Int32) (out : Int32 × Pic) (hf : f_X9_piece d_ad x1 x2 x3 = some out) : Met l yX9_piece (.code yX9_piece cX9_piece 4 (some .int) :: BT) ({ frames := 3, cells := 0, slots := 0, locals := 70 }) (va_Pc [.ref (ad 99), .int x1, .int x2, .int x3] (PreW G sz (dO G ad d_ad dw ++ []))) (Ans G out.1 (va_A (dO G ad d_ad dw ++ []) sz) (dO G ad out.2 dw ++ [])) 0 0 (va_A (dO G ad d_ad dw ++ []) sz) := by
  refine Met.into (by decide) (Nat.le_of_ble_eq_true rfl) ?_
  intro p e s m below meth c C hsz ls hl hw
  have hl : lv_has ls 4 [(0, .ref (ad 99)), (1, .int x1), (2, .int x2), (3, .int x3)] := hl
  clear hsz
  generalize va_A (dO G ad d_ad dw ++ []) sz = A at hw ⊢
  have hB_26 : ∀ (d_ad : Pic), b_X9_piece_26 x1 x2 x3  d_ad = some out → ∀ (H : Heap) (locs : List Loc), Wd G A s H locs (dO G ad d_ad dw ++ []) → ∀ ls : Array Slot, lv_has ls 4 [(0, .ref (ad 99))] → W p l e ({ frames := 3, cells := 0, slots := 0, locals := 70 }) s m [.ref (ad 99), .int x1, .int x2, .int x3].toArray below meth c H locs 0 0 (MQ below (Ans G out.1 A (dO G ad out.2 dw ++ [])) [.ref (ad 99), .int x1, .int x2, .int x3].toArray s 0 0 A) (F0 m 26 ls []) := by
    intro d_ad hf H locs hw ls hl
    unfold b_X9_piece_26 at hf
    refine r_aload0 C hl 0 rfl dX9_piece_26 ?_
    refine lv_iconst (v := 1) C.1 C.2.1 dX9_piece_27 (by decide) ?_
    obtain ⟨u3, e3, hf⟩ := bx hf
    refine r_callVi (ws' := (dO G ad u3.2 dw ++ [])) (As := [.int 1]) (rest := []) C hw hl.1 kX9_refused ml_X9_210 (c_X9_refused l G ad _ d_ad dw 1 u3 e3) (CutX.take dO_f CutX.none) _ (gx_h dO_o) rfl ⟨rfl, rfl⟩ ⟨Nat.le_of_ble_eq_true rfl, Nat.le_of_ble_eq_true rfl⟩ rfl ⟨Nat.zero_le _, Nat.zero_le _⟩ rfl (Nat.le_of_ble_eq_true rfl) dX9_piece_28 (fun H locs hw => ?_)
    exact fin_i C hw (Option.some.inj hf) (fun o => o.1) (fun o => (dO G ad o.2 dw ++ [])) rfl rfl dX9_piece_31
  unfold f_X9_piece at hf
  refine r_aload0 C hl 0 rfl dX9_piece_0 ?_
  refine lv_iconst (v := 0) C.1 C.2.1 dX9_piece_1 (by decide) ?_
  obtain ⟨d_ad1, e1, hf⟩ := bx hf
  refine r_put C hw _ (gx_h dO_o) 0 fp_X9_75 rfl rfl (Nat.le_of_ble_eq_true rfl) (dO G ad d_ad1 dw ++ []) (sx_h dO_o (dO_p0 e1)) dX9_piece_2 (fun H locs hw => ?_)
  refine r_aload0 C hl 0 rfl dX9_piece_5 ?_
  refine r_iload0 C hl 1 rfl dX9_piece_6 ?_
  obtain ⟨u2, e2, hf⟩ := bx hf
  refine r_callVi (ws' := (dO G ad d_ad1 dw ++ [])) (As := [.int x1]) (rest := []) C hw hl.1 kX9_isData ml_X9_271 (c_X9_isData l G ad _ d_ad1 dw x1 u2 e2) (CutX.take dO_f CutX.none) _ (gx_h dO_o) rfl ⟨rfl, rfl⟩ ⟨Nat.le_of_ble_eq_true rfl, Nat.le_of_ble_eq_true rfl⟩ rfl ⟨Nat.zero_le _, Nat.zero_le _⟩ rfl (Nat.le_of_ble_eq_true rfl) dX9_piece_7 (fun H locs hw => ?_)
  refine lv_if_eq (tgt := 26) C.1 C.2.1 dX9_piece_10 (by decide) (fun hc => ?_) (fun hc => ?_)
  · replace hf := ifp hf hc
    exact hB_26  d_ad1 hf _ _ hw _ (lv_sub hl [0] rfl)
  · replace hf := ifn hf hc
    refine r_iload0 C hl 2 rfl dX9_piece_13 ?_
    refine lv_if_lt (tgt := 26) C.1 C.2.1 dX9_piece_14 (by decide) (fun hc => ?_) (fun hc => ?_)
    · replace hf := ifp hf hc
      exact hB_26  d_ad1 hf _ _ hw _ (lv_sub hl [0] rfl)
    · replace hf := ifn hf hc
      refine r_iload0 C hl 3 rfl dX9_piece_17 ?_
      refine lv_iconst (v := 0) C.1 C.2.1 dX9_piece_18 (by decide) ?_
      refine lv_iconst (v := 3) C.1 C.2.1 dX9_piece_19 (by decide) ?_
      obtain ⟨u4, e4, hf⟩ := bx hf
      refine r_callSi (ws' := (dO G ad d_ad1 dw ++ [])) (As := [.int x3, .int 0, .int 3]) (rest := []) C hw hl.1 kX9_in ml_X9_100 (c_X9_in l G _ x3 0 3 u4 e4) CutX.none ⟨rfl, rfl⟩ ⟨Nat.le_of_ble_eq_true rfl, Nat.le_of_ble_eq_true rfl⟩ rfl ⟨Nat.zero_le _, Nat.zero_le _⟩ rfl (Nat.le_of_ble_eq_true rfl) dX9_piece_20 (fun H locs hw => ?_)
      refine lv_if_ne (tgt := 32) C.1 C.2.1 dX9_piece_23 (by decide) (fun hc => ?_) (fun hc => ?_)
      · replace hf := ifn hf hc
        refine r_aload0 C hl 0 rfl dX9_piece_32 ?_
        refine r_iload0 C hl 1 rfl dX9_piece_33 ?_
        obtain ⟨u5, e5, hf⟩ := bx hf
        refine r_callSi (ws' := (dO G ad d_ad1 dw ++ [])) (As := [.int x1]) (rest := [.ref (ad 99)]) C hw hl.1 kX9_dataAt ml_X9_274 (c_X9_dataAt l G _ x1 u5 e5) CutX.none ⟨rfl, rfl⟩ ⟨Nat.le_of_ble_eq_true rfl, Nat.le_of_ble_eq_true rfl⟩ rfl ⟨Nat.zero_le _, Nat.zero_le _⟩ rfl (Nat.le_of_ble_eq_true rfl) dX9_piece_34 (fun H locs hw => ?_)
        obtain ⟨u6, e6, hf⟩ := bx hf
        refine r_callVi (ws' := (dO G ad u6.2 dw ++ [])) (As := [.int u5]) (rest := []) C hw hl.1 kX9_cutAll ml_X9_277 (c_X9_cutAll l G ad _ d_ad1 dw u5 u6 e6) (CutX.take dO_f CutX.none) _ (gx_h dO_o) rfl ⟨rfl, rfl⟩ ⟨Nat.le_of_ble_eq_true rfl, Nat.le_of_ble_eq_true rfl⟩ rfl ⟨Nat.zero_le _, Nat.zero_le _⟩ rfl (Nat.le_of_ble_eq_true rfl) dX9_piece_37 (fun H locs hw => ?_)
        refine lv_pop C.1 C.2.1 dX9_piece_40 rfl ?_
        refine r_iload0 C hl 2 rfl dX9_piece_41 ?_
        refine r_aload0 C hl 0 rfl dX9_piece_42 ?_
        refine r_get C hw _ (gx_h dO_o) 40 fl_X9_252 rfl dX9_piece_43 ?_
        refine lv_icmp_lt (tgt := 55) C.1 C.2.1 dX9_piece_46 (by decide) (fun hc => ?_) (fun hc => ?_)
        · replace hf := ifp hf hc
          refine r_iload0 C hl 3 rfl dX9_piece_55 ?_
          rcases Decidable.em (x3 = 0) with hc | h0_
          · replace hf := ifp hf hc
            refine lv_tableIn (tgt := 84) C.1 C.2.1 dX9_piece_56 (by rw [hc]; decide) (by rw [hc]; decide) (by rw [hc]; rfl) (by decide) ?_
            refine r_aload0 C hl 0 rfl dX9_piece_84 ?_
            refine r_aload0 C hl 0 rfl dX9_piece_85 ?_
            refine r_get C hw _ (gx_h dO_o) 36 fl_X9_57 rfl dX9_piece_86 ?_
            refine r_iload0 C hl 2 rfl dX9_piece_89 ?_
            obtain ⟨v13_, e13, hf⟩ := bx hf
            refine r_iald C hw _ (gx_h dO_g36) e13 dX9_piece_90 ?_
            obtain ⟨u14, e14, hf⟩ := bx hf
            refine r_callVi (ws' := (dO G ad u14.2 dw ++ [])) (As := [.int v13_]) (rest := []) C hw hl.1 kX9_good ml_X9_222 (c_X9_good l G ad _ u6.2 dw v13_ u14 e14) (CutX.take dO_f CutX.none) _ (gx_h dO_o) rfl ⟨rfl, rfl⟩ ⟨Nat.le_of_ble_eq_true rfl, Nat.le_of_ble_eq_true rfl⟩ rfl ⟨Nat.zero_le _, Nat.zero_le _⟩ rfl (Nat.le_of_ble_eq_true rfl) dX9_piece_91 (fun H locs hw => ?_)
            exact fin_i C hw (Option.some.inj hf) (fun o => o.1) (fun o => (dO G ad o.2 dw ++ [])) rfl rfl dX9_piece_94
          replace hf := ifn hf h0_
          rcases Decidable.em (x3 = 1) with hc | h1_
          · replace hf := ifp hf hc
            refine lv_tableIn (tgt := 95) C.1 C.2.1 dX9_piece_56 (by rw [hc]; decide) (by rw [hc]; decide) (by rw [hc]; rfl) (by decide) ?_
            refine r_aload0 C hl 0 rfl dX9_piece_95 ?_
            refine r_aload0 C hl 0 rfl dX9_piece_96 ?_
            refine r_get C hw _ (gx_h dO_o) 37 fl_X9_60 rfl dX9_piece_97 ?_
            refine r_iload0 C hl 2 rfl dX9_piece_100 ?_
            obtain ⟨v11_, e11, hf⟩ := bx hf
            refine r_iald C hw _ (gx_h dO_g37) e11 dX9_piece_101 ?_
            obtain ⟨u12, e12, hf⟩ := bx hf
            refine r_callVi (ws' := (dO G ad u12.2 dw ++ [])) (As := [.int v11_]) (rest := []) C hw hl.1 kX9_good ml_X9_222 (c_X9_good l G ad _ u6.2 dw v11_ u12 e12) (CutX.take dO_f CutX.none) _ (gx_h dO_o) rfl ⟨rfl, rfl⟩ ⟨Nat.le_of_ble_eq_true rfl, Nat.le_of_ble_eq_true rfl⟩ rfl ⟨Nat.zero_le _, Nat.zero_le _⟩ rfl (Nat.le_of_ble_eq_true rfl) dX9_piece_102 (fun H locs hw => ?_)
            exact fin_i C hw (Option.some.inj hf) (fun o => o.1) (fun o => (dO G ad o.2 dw ++ [])) rfl rfl dX9_piece_105
          replace hf := ifn hf h1_
          rcases Decidable.em (x3 = 2) with hc | h2_
          · replace hf := ifp hf hc
            refine lv_tableIn (tgt := 106) C.1 C.2.1 dX9_piece_56 (by rw [hc]; decide) (by rw [hc]; decide) (by rw [hc]; rfl) (by decide) ?_
            refine r_aload0 C hl 0 rfl dX9_piece_106 ?_
            refine r_aload0 C hl 0 rfl dX9_piece_107 ?_
            refine r_get C hw _ (gx_h dO_o) 38 fl_X9_63 rfl dX9_piece_108 ?_
            refine r_iload0 C hl 2 rfl dX9_piece_111 ?_
            obtain ⟨v9_, e9, hf⟩ := bx hf
            refine r_iald C hw _ (gx_h dO_g38) e9 dX9_piece_112 ?_
            obtain ⟨u10, e10, hf⟩ := bx hf
            refine r_callVi (ws' := (dO G ad u10.2 dw ++ [])) (As := [.int v9_]) (rest := []) C hw hl.1 kX9_good ml_X9_222 (c_X9_good l G ad _ u6.2 dw v9_ u10 e10) (CutX.take dO_f CutX.none) _ (gx_h dO_o) rfl ⟨rfl, rfl⟩ ⟨Nat.le_of_ble_eq_true rfl, Nat.le_of_ble_eq_true rfl⟩ rfl ⟨Nat.zero_le _, Nat.zero_le _⟩ rfl (Nat.le_of_ble_eq_true rfl) dX9_piece_113 (fun H locs hw => ?_)
            exact fin_i C hw (Option.some.inj hf) (fun o => o.1) (fun o => (dO G ad o.2 dw ++ [])) rfl rfl dX9_piece_116
          replace hf := ifn hf h2_
          refine lv_tableOut (tgt := 117) C.1 C.2.1 dX9_piece_56 (sw_out3 h0_ h1_ h2_) (by decide) ?_
          refine r_aload0 C hl 0 rfl dX9_piece_117 ?_
          refine r_aload0 C hl 0 rfl dX9_piece_118 ?_
          refine r_get C hw _ (gx_h dO_o) 39 fl_X9_66 rfl dX9_piece_119 ?_
          refine r_iload0 C hl 2 rfl dX9_piece_122 ?_
          obtain ⟨v7_, e7, hf⟩ := bx hf
          refine r_iald C hw _ (gx_h dO_g39) e7 dX9_piece_123 ?_
          obtain ⟨u8, e8, hf⟩ := bx hf
          refine r_callVi (ws' := (dO G ad u8.2 dw ++ [])) (As := [.int v7_]) (rest := []) C hw hl.1 kX9_good ml_X9_222 (c_X9_good l G ad _ u6.2 dw v7_ u8 e8) (CutX.take dO_f CutX.none) _ (gx_h dO_o) rfl ⟨rfl, rfl⟩ ⟨Nat.le_of_ble_eq_true rfl, Nat.le_of_ble_eq_true rfl⟩ rfl ⟨Nat.zero_le _, Nat.zero_le _⟩ rfl (Nat.le_of_ble_eq_true rfl) dX9_piece_124 (fun H locs hw => ?_)
          exact fin_i C hw (Option.some.inj hf) (fun o => o.1) (fun o => (dO G ad o.2 dw ++ [])) rfl rfl dX9_piece_127
        · replace hf := ifn hf hc
          refine r_aload0 C hl 0 rfl dX9_piece_49 ?_
          refine lv_iconst (v := 1) C.1 C.2.1 dX9_piece_50 (by decide) ?_
          obtain ⟨u15, e15, hf⟩ := bx hf
          refine r_callVi (ws' := (dO G ad u15.2 dw ++ [])) (As := [.int 1]) (rest := []) C hw hl.1 kX9_refused ml_X9_210 (c_X9_refused l G ad _ u6.2 dw 1 u15 e15) (CutX.take dO_f CutX.none) _ (gx_h dO_o) rfl ⟨rfl, rfl⟩ ⟨Nat.le_of_ble_eq_true rfl, Nat.le_of_ble_eq_true rfl⟩ rfl ⟨Nat.zero_le _, Nat.zero_le _⟩ rfl (Nat.le_of_ble_eq_true rfl) dX9_piece_51 (fun H locs hw => ?_)
          exact fin_i C hw (Option.some.inj hf) (fun o => o.1) (fun o => (dO G ad o.2 dw ++ [])) rfl rfl dX9_piece_54
      · replace hf := ifp hf hc
        exact hB_26  d_ad1 hf _ _ hw _ (lv_sub hl [0] rfl)
set_option maxHeartbeats 4000000 in
set_option maxRecDepth 100000 in
theorem c_X9_fewest (l : Launch) (G : GG) (ad : Nat → Nat) (sz : Nat) (d_ad : Pic) (dw : Int64) (x1 : Int32) (out : Int32 × Pic) (hf : f_X9_fewest d_ad x1 = some out) : Met l yX9_fewest (.code yX9_fewest cX9_fewest 2 (some .int) :: BT) ({ frames := 3, cells := 0, slots := 0, locals := 70 }) (va_Pc [.ref (ad 99), .int x1] (PreW G sz (dO G ad d_ad dw ++ []))) (Ans G out.1 (va_A (dO G ad d_ad dw ++ []) sz) (dO G ad out.2 dw ++ [])) 0 0 (va_A (dO G ad d_ad dw ++ []) sz) := by
  refine Met.into (by decide) (Nat.le_of_ble_eq_true rfl) ?_
  intro p e s m below meth c C hsz ls hl hw
  have hl : lv_has ls 2 [(0, .ref (ad 99)), (1, .int x1)] := hl
  clear hsz
  generalize va_A (dO G ad d_ad dw ++ []) sz = A at hw ⊢
  unfold f_X9_fewest at hf
  refine r_aload0 C hl 0 rfl dX9_fewest_0 ?_
  refine lv_iconst (v := 0) C.1 C.2.1 dX9_fewest_1 (by decide) ?_
  obtain ⟨d_ad1, e1, hf⟩ := bx hf
  refine r_put C hw _ (gx_h dO_o) 0 fp_X9_75 rfl rfl (Nat.le_of_ble_eq_true rfl) (dO G ad d_ad1 dw ++ []) (sx_h dO_o (dO_p0 e1)) dX9_fewest_2 (fun H locs hw => ?_)
  refine r_aload0 C hl 0 rfl dX9_fewest_5 ?_
  refine r_iload0 C hl 1 rfl dX9_fewest_6 ?_
  obtain ⟨u2, e2, hf⟩ := bx hf
  refine r_callVi (ws' := (dO G ad d_ad1 dw ++ [])) (As := [.int x1]) (rest := []) C hw hl.1 kX9_isData ml_X9_271 (c_X9_isData l G ad _ d_ad1 dw x1 u2 e2) (CutX.take dO_f CutX.none) _ (gx_h dO_o) rfl ⟨rfl, rfl⟩ ⟨Nat.le_of_ble_eq_true rfl, Nat.le_of_ble_eq_true rfl⟩ rfl ⟨Nat.zero_le _, Nat.zero_le _⟩ rfl (Nat.le_of_ble_eq_true rfl) dX9_fewest_7 (fun H locs hw => ?_)
  refine lv_if_ne (tgt := 19) C.1 C.2.1 dX9_fewest_10 (by decide) (fun hc => ?_) (fun hc => ?_)
  · replace hf := ifn hf hc
    refine r_aload0 C hl 0 rfl dX9_fewest_19 ?_
    refine r_iload0 C hl 1 rfl dX9_fewest_20 ?_
    obtain ⟨u3, e3, hf⟩ := bx hf
    refine r_callSi (ws' := (dO G ad d_ad1 dw ++ [])) (As := [.int x1]) (rest := [.ref (ad 99)]) C hw hl.1 kX9_dataAt ml_X9_274 (c_X9_dataAt l G _ x1 u3 e3) CutX.none ⟨rfl, rfl⟩ ⟨Nat.le_of_ble_eq_true rfl, Nat.le_of_ble_eq_true rfl⟩ rfl ⟨Nat.zero_le _, Nat.zero_le _⟩ rfl (Nat.le_of_ble_eq_true rfl) dX9_fewest_21 (fun H locs hw => ?_)
    obtain ⟨u4, e4, hf⟩ := bx hf
    refine r_callVi (ws' := (dO G ad u4.2 dw ++ [])) (As := [.int u3]) (rest := []) C hw hl.1 kX9_cutAll ml_X9_277 (c_X9_cutAll l G ad _ d_ad1 dw u3 u4 e4) (CutX.take dO_f CutX.none) _ (gx_h dO_o) rfl ⟨rfl, rfl⟩ ⟨Nat.le_of_ble_eq_true rfl, Nat.le_of_ble_eq_true rfl⟩ rfl ⟨Nat.zero_le _, Nat.zero_le _⟩ rfl (Nat.le_of_ble_eq_true rfl) dX9_fewest_24 (fun H locs hw => ?_)
    refine lv_pop C.1 C.2.1 dX9_fewest_27 rfl ?_
    refine r_aload0 C hl 0 rfl dX9_fewest_28 ?_
    refine r_aload0 C hl 0 rfl dX9_fewest_29 ?_
    refine r_get C hw _ (gx_h dO_o) 35 fl_X9_54 rfl dX9_fewest_30 ?_
    refine lv_iconst (v := 0) C.1 C.2.1 dX9_fewest_33 (by decide) ?_
    obtain ⟨v5_, e5, hf⟩ := bx hf
    refine r_iald C hw _ (gx_h dO_g35) e5 dX9_fewest_34 ?_
    obtain ⟨u6, e6, hf⟩ := bx hf
    refine r_callVi (ws' := (dO G ad u6.2 dw ++ [])) (As := [.int v5_]) (rest := []) C hw hl.1 kX9_good ml_X9_222 (c_X9_good l G ad _ u4.2 dw v5_ u6 e6) (CutX.take dO_f CutX.none) _ (gx_h dO_o) rfl ⟨rfl, rfl⟩ ⟨Nat.le_of_ble_eq_true rfl, Nat.le_of_ble_eq_true rfl⟩ rfl ⟨Nat.zero_le _, Nat.zero_le _⟩ rfl (Nat.le_of_ble_eq_true rfl) dX9_fewest_35 (fun H locs hw => ?_)
    exact fin_i C hw (Option.some.inj hf) (fun o => o.1) (fun o => (dO G ad o.2 dw ++ [])) rfl rfl dX9_fewest_38
  · replace hf := ifp hf hc
    refine r_aload0 C hl 0 rfl dX9_fewest_13 ?_
    refine lv_iconst (v := 1) C.1 C.2.1 dX9_fewest_14 (by decide) ?_
    obtain ⟨u7, e7, hf⟩ := bx hf
    refine r_callVi (ws' := (dO G ad u7.2 dw ++ [])) (As := [.int 1]) (rest := []) C hw hl.1 kX9_refused ml_X9_210 (c_X9_refused l G ad _ d_ad1 dw 1 u7 e7) (CutX.take dO_f CutX.none) _ (gx_h dO_o) rfl ⟨rfl, rfl⟩ ⟨Nat.le_of_ble_eq_true rfl, Nat.le_of_ble_eq_true rfl⟩ rfl ⟨Nat.zero_le _, Nat.zero_le _⟩ rfl (Nat.le_of_ble_eq_true rfl) dX9_fewest_15 (fun H locs hw => ?_)
    exact fin_i C hw (Option.some.inj hf) (fun o => o.1) (fun o => (dO G ad o.2 dw ++ [])) rfl rfl dX9_fewest_18
set_option maxHeartbeats 4000000 in
set_option maxRecDepth 100000 in
theorem c_X9_rest (l : Launch) (G : GG) (ad : Nat → Nat) (sz : Nat) (d_ad : Pic) (dw : Int64) (x1 : Int32) (x2 : Int32) (out : Int32 × Pic) (hf : f_X9_rest d_ad x1 x2 = some out) : Met l yX9_rest (.code yX9_rest cX9_rest 3 (some .int) :: BT) ({ frames := 3, cells := 0, slots := 0, locals := 70 }) (va_Pc [.ref (ad 99), .int x1, .int x2] (PreW G sz (dO G ad d_ad dw ++ []))) (Ans G out.1 (va_A (dO G ad d_ad dw ++ []) sz) (dO G ad out.2 dw ++ [])) 0 0 (va_A (dO G ad d_ad dw ++ []) sz) := by
  refine Met.into (by decide) (Nat.le_of_ble_eq_true rfl) ?_
  intro p e s m below meth c C hsz ls hl hw
  have hl : lv_has ls 3 [(0, .ref (ad 99)), (1, .int x1), (2, .int x2)] := hl
  clear hsz
  generalize va_A (dO G ad d_ad dw ++ []) sz = A at hw ⊢
  have hB_23 : ∀ (d_ad : Pic), b_X9_rest_23 x1 x2  d_ad = some out → ∀ (H : Heap) (locs : List Loc), Wd G A s H locs (dO G ad d_ad dw ++ []) → ∀ ls : Array Slot, lv_has ls 3 [(0, .ref (ad 99))] → W p l e ({ frames := 3, cells := 0, slots := 0, locals := 70 }) s m [.ref (ad 99), .int x1, .int x2].toArray below meth c H locs 0 0 (MQ below (Ans G out.1 A (dO G ad out.2 dw ++ [])) [.ref (ad 99), .int x1, .int x2].toArray s 0 0 A) (F0 m 23 ls []) := by
    intro d_ad hf H locs hw ls hl
    unfold b_X9_rest_23 at hf
    refine r_aload0 C hl 0 rfl dX9_rest_23 ?_
    refine lv_iconst (v := 1) C.1 C.2.1 dX9_rest_24 (by decide) ?_
    obtain ⟨u3, e3, hf⟩ := bx hf
    refine r_callVi (ws' := (dO G ad u3.2 dw ++ [])) (As := [.int 1]) (rest := []) C hw hl.1 kX9_refused ml_X9_210 (c_X9_refused l G ad _ d_ad dw 1 u3 e3) (CutX.take dO_f CutX.none) _ (gx_h dO_o) rfl ⟨rfl, rfl⟩ ⟨Nat.le_of_ble_eq_true rfl, Nat.le_of_ble_eq_true rfl⟩ rfl ⟨Nat.zero_le _, Nat.zero_le _⟩ rfl (Nat.le_of_ble_eq_true rfl) dX9_rest_25 (fun H locs hw => ?_)
    exact fin_i C hw (Option.some.inj hf) (fun o => o.1) (fun o => (dO G ad o.2 dw ++ [])) rfl rfl dX9_rest_28
  unfold f_X9_rest at hf
  refine r_aload0 C hl 0 rfl dX9_rest_0 ?_
  refine lv_iconst (v := 0) C.1 C.2.1 dX9_rest_1 (by decide) ?_
  obtain ⟨d_ad1, e1, hf⟩ := bx hf
  refine r_put C hw _ (gx_h dO_o) 0 fp_X9_75 rfl rfl (Nat.le_of_ble_eq_true rfl) (dO G ad d_ad1 dw ++ []) (sx_h dO_o (dO_p0 e1)) dX9_rest_2 (fun H locs hw => ?_)
  refine r_aload0 C hl 0 rfl dX9_rest_5 ?_
  refine r_iload0 C hl 1 rfl dX9_rest_6 ?_
  obtain ⟨u2, e2, hf⟩ := bx hf
  refine r_callVi (ws' := (dO G ad d_ad1 dw ++ [])) (As := [.int x1]) (rest := []) C hw hl.1 kX9_isData ml_X9_271 (c_X9_isData l G ad _ d_ad1 dw x1 u2 e2) (CutX.take dO_f CutX.none) _ (gx_h dO_o) rfl ⟨rfl, rfl⟩ ⟨Nat.le_of_ble_eq_true rfl, Nat.le_of_ble_eq_true rfl⟩ rfl ⟨Nat.zero_le _, Nat.zero_le _⟩ rfl (Nat.le_of_ble_eq_true rfl) dX9_rest_7 (fun H locs hw => ?_)
  refine lv_if_eq (tgt := 23) C.1 C.2.1 dX9_rest_10 (by decide) (fun hc => ?_) (fun hc => ?_)
  · replace hf := ifp hf hc
    exact hB_23  d_ad1 hf _ _ hw _ (lv_sub hl [0] rfl)
  · replace hf := ifn hf hc
    refine r_iload0 C hl 2 rfl dX9_rest_13 ?_
    refine lv_iconst (v := 0) C.1 C.2.1 dX9_rest_14 (by decide) ?_
    refine lv_bipush (v := 15) C.1 C.2.1 dX9_rest_15 (by decide) ?_
    obtain ⟨u4, e4, hf⟩ := bx hf
    refine r_callSi (ws' := (dO G ad d_ad1 dw ++ [])) (As := [.int x2, .int 0, .int 15]) (rest := []) C hw hl.1 kX9_in ml_X9_100 (c_X9_in l G _ x2 0 15 u4 e4) CutX.none ⟨rfl, rfl⟩ ⟨Nat.le_of_ble_eq_true rfl, Nat.le_of_ble_eq_true rfl⟩ rfl ⟨Nat.zero_le _, Nat.zero_le _⟩ rfl (Nat.le_of_ble_eq_true rfl) dX9_rest_17 (fun H locs hw => ?_)
    refine lv_if_ne (tgt := 29) C.1 C.2.1 dX9_rest_20 (by decide) (fun hc => ?_) (fun hc => ?_)
    · replace hf := ifn hf hc
      refine r_aload0 C hl 0 rfl dX9_rest_29 ?_
      refine r_iload0 C hl 1 rfl dX9_rest_30 ?_
      obtain ⟨u5, e5, hf⟩ := bx hf
      refine r_callSi (ws' := (dO G ad d_ad1 dw ++ [])) (As := [.int x1]) (rest := [.ref (ad 99)]) C hw hl.1 kX9_dataAt ml_X9_274 (c_X9_dataAt l G _ x1 u5 e5) CutX.none ⟨rfl, rfl⟩ ⟨Nat.le_of_ble_eq_true rfl, Nat.le_of_ble_eq_true rfl⟩ rfl ⟨Nat.zero_le _, Nat.zero_le _⟩ rfl (Nat.le_of_ble_eq_true rfl) dX9_rest_31 (fun H locs hw => ?_)
      obtain ⟨u6, e6, hf⟩ := bx hf
      refine r_callVi (ws' := (dO G ad u6.2 dw ++ [])) (As := [.int u5]) (rest := []) C hw hl.1 kX9_cutAll ml_X9_277 (c_X9_cutAll l G ad _ d_ad1 dw u5 u6 e6) (CutX.take dO_f CutX.none) _ (gx_h dO_o) rfl ⟨rfl, rfl⟩ ⟨Nat.le_of_ble_eq_true rfl, Nat.le_of_ble_eq_true rfl⟩ rfl ⟨Nat.zero_le _, Nat.zero_le _⟩ rfl (Nat.le_of_ble_eq_true rfl) dX9_rest_34 (fun H locs hw => ?_)
      refine lv_pop C.1 C.2.1 dX9_rest_37 rfl ?_
      refine r_aload0 C hl 0 rfl dX9_rest_38 ?_
      refine r_aload0 C hl 0 rfl dX9_rest_39 ?_
      refine r_get C hw _ (gx_h dO_o) 34 fl_X9_51 rfl dX9_rest_40 ?_
      refine r_iload0 C hl 2 rfl dX9_rest_43 ?_
      obtain ⟨v7_, e7, hf⟩ := bx hf
      refine r_iald C hw _ (gx_h dO_g34) e7 dX9_rest_44 ?_
      obtain ⟨u8, e8, hf⟩ := bx hf
      refine r_callVi (ws' := (dO G ad u8.2 dw ++ [])) (As := [.int v7_]) (rest := []) C hw hl.1 kX9_good ml_X9_222 (c_X9_good l G ad _ u6.2 dw v7_ u8 e8) (CutX.take dO_f CutX.none) _ (gx_h dO_o) rfl ⟨rfl, rfl⟩ ⟨Nat.le_of_ble_eq_true rfl, Nat.le_of_ble_eq_true rfl⟩ rfl ⟨Nat.zero_le _, Nat.zero_le _⟩ rfl (Nat.le_of_ble_eq_true rfl) dX9_rest_45 (fun H locs hw => ?_)
      exact fin_i C hw (Option.some.inj hf) (fun o => o.1) (fun o => (dO G ad o.2 dw ++ [])) rfl rfl dX9_rest_48
    · replace hf := ifp hf hc
      exact hB_23  d_ad1 hf _ _ hw _ (lv_sub hl [0] rfl)
set_option maxHeartbeats 4000000 in
set_option maxRecDepth 100000 in
theorem c_X9_rankOf (l : Launch) (G : GG) (ad : Nat → Nat) (sz : Nat) (d_ad : Pic) (dw : Int64) (x1 : Int32) (out : Int32) (hf : f_X9_rankOf d_ad x1 = some out) : Met l yX9_rankOf (.code yX9_rankOf cX9_rankOf 4 (some .int) :: BT) ({ frames := 0, cells := 0, slots := 0, locals := 0 }) (va_Pc [.ref (ad 99), .int x1] (PreW G sz (dO G ad d_ad dw ++ []))) (Ans G out (va_A (dO G ad d_ad dw ++ []) sz) (dO G ad d_ad dw ++ [])) 0 0 (va_A (dO G ad d_ad dw ++ []) sz) := by
  refine Met.into (by decide) (Nat.le_of_ble_eq_true rfl) ?_
  intro p e s m below meth c C hsz ls hl hw
  have hl : lv_has ls 4 [(0, .ref (ad 99)), (1, .int x1)] := hl
  clear hsz
  generalize va_A (dO G ad d_ad dw ++ []) sz = A at hw ⊢
  have hB_48 : ∀ (k4 : Int32 → Int32 → Option (Int32)) (hk4 : ∀ (v2 : Int32) (v3 : Int32), k4 v2 v3 = some out → ∀ (H : Heap) (locs : List Loc), Wd G A s H locs (dO G ad d_ad dw ++ []) → ∀ ls : Array Slot, lv_has ls 4 [(0, .ref (ad 99)), (1, .int x1), (2, .int v2), (3, .int v3)] → W p l e ({ frames := 0, cells := 0, slots := 0, locals := 0 }) s m [.ref (ad 99), .int x1].toArray below meth c H locs 0 0 (MQ below (Ans G out A (dO G ad d_ad dw ++ [])) [.ref (ad 99), .int x1].toArray s 0 0 A) (F0 m 4 ls [])), ∀ (v3 : Int32) (t0 : Int32), b_X9_rankOf_48 d_ad x1 k4 v3 t0 = some out → ∀ (H : Heap) (locs : List Loc), Wd G A s H locs (dO G ad d_ad dw ++ []) → ∀ ls : Array Slot, lv_has ls 4 [(0, .ref (ad 99)), (1, .int x1), (3, .int v3)] → W p l e ({ frames := 0, cells := 0, slots := 0, locals := 0 }) s m [.ref (ad 99), .int x1].toArray below meth c H locs 0 0 (MQ below (Ans G out A (dO G ad d_ad dw ++ [])) [.ref (ad 99), .int x1].toArray s 0 0 A) (F0 m 48 ls [.int t0]) := by
    intro k4 hk4 v3 t0 hf H locs hw ls hl
    unfold b_X9_rankOf_48 at hf
    refine lv_iconst (v := 1) C.1 C.2.1 dX9_rankOf_48 (by decide) ?_
    refine lv_goto (tgt := 53) C.1 C.2.1 dX9_rankOf_49 (by decide) ?_
    refine lv_iadd C.1 C.2.1 dX9_rankOf_53 ?_
    refine r_istore0 C hl [(2, .int (t0 + 1)), (0, .ref (ad 99)), (1, .int x1), (3, .int v3)] (by decide) rfl dX9_rankOf_54 (fun ls hl => ?_)
    refine r_iinc C hl 3 (v3 + 1) [(3, .int (v3 + 1)), (2, .int (t0 + 1)), (0, .ref (ad 99)), (1, .int x1)] rfl (iinc_e (by decide)) (by decide) rfl dX9_rankOf_55 (fun ls hl => ?_)
    refine lv_goto (tgt := 4) C.1 C.2.1 dX9_rankOf_58 (by decide) ?_
    exact hk4 (t0 + 1) (v3 + 1) hf _ _ hw _ (lv_sub hl [2, 3, 1, 0] rfl)
  have hB_52 : ∀ (k4 : Int32 → Int32 → Option (Int32)) (hk4 : ∀ (v2 : Int32) (v3 : Int32), k4 v2 v3 = some out → ∀ (H : Heap) (locs : List Loc), Wd G A s H locs (dO G ad d_ad dw ++ []) → ∀ ls : Array Slot, lv_has ls 4 [(0, .ref (ad 99)), (1, .int x1), (2, .int v2), (3, .int v3)] → W p l e ({ frames := 0, cells := 0, slots := 0, locals := 0 }) s m [.ref (ad 99), .int x1].toArray below meth c H locs 0 0 (MQ below (Ans G out A (dO G ad d_ad dw ++ [])) [.ref (ad 99), .int x1].toArray s 0 0 A) (F0 m 4 ls [])), ∀ (v3 : Int32) (t0 : Int32), b_X9_rankOf_52 d_ad x1 k4 v3 t0 = some out → ∀ (H : Heap) (locs : List Loc), Wd G A s H locs (dO G ad d_ad dw ++ []) → ∀ ls : Array Slot, lv_has ls 4 [(0, .ref (ad 99)), (1, .int x1), (3, .int v3)] → W p l e ({ frames := 0, cells := 0, slots := 0, locals := 0 }) s m [.ref (ad 99), .int x1].toArray below meth c H locs 0 0 (MQ below (Ans G out A (dO G ad d_ad dw ++ [])) [.ref (ad 99), .int x1].toArray s 0 0 A) (F0 m 52 ls [.int t0]) := by
    intro k4 hk4 v3 t0 hf H locs hw ls hl
    unfold b_X9_rankOf_52 at hf
    refine lv_iconst (v := 0) C.1 C.2.1 dX9_rankOf_52 (by decide) ?_
    refine lv_iadd C.1 C.2.1 dX9_rankOf_53 ?_
    refine r_istore0 C hl [(2, .int (t0 + 0)), (0, .ref (ad 99)), (1, .int x1), (3, .int v3)] (by decide) rfl dX9_rankOf_54 (fun ls hl => ?_)
    refine r_iinc C hl 3 (v3 + 1) [(3, .int (v3 + 1)), (2, .int (t0 + 0)), (0, .ref (ad 99)), (1, .int x1)] rfl (iinc_e (by decide)) (by decide) rfl dX9_rankOf_55 (fun ls hl => ?_)
    refine lv_goto (tgt := 4) C.1 C.2.1 dX9_rankOf_58 (by decide) ?_
    exact hk4 (t0 + 0) (v3 + 1) hf _ _ hw _ (lv_sub hl [2, 3, 1, 0] rfl)
  have hB_4 : ∀ (k4 : Int32 → Int32 → Option (Int32)) (hk4 : ∀ (v2 : Int32) (v3 : Int32), k4 v2 v3 = some out → ∀ (H : Heap) (locs : List Loc), Wd G A s H locs (dO G ad d_ad dw ++ []) → ∀ ls : Array Slot, lv_has ls 4 [(0, .ref (ad 99)), (1, .int x1), (2, .int v2), (3, .int v3)] → W p l e ({ frames := 0, cells := 0, slots := 0, locals := 0 }) s m [.ref (ad 99), .int x1].toArray below meth c H locs 0 0 (MQ below (Ans G out A (dO G ad d_ad dw ++ [])) [.ref (ad 99), .int x1].toArray s 0 0 A) (F0 m 4 ls [])), ∀ (v2 : Int32) (v3 : Int32), b_X9_rankOf_4 d_ad x1 k4 v2 v3 = some out → ∀ (H : Heap) (locs : List Loc), Wd G A s H locs (dO G ad d_ad dw ++ []) → ∀ ls : Array Slot, lv_has ls 4 [(0, .ref (ad 99)), (1, .int x1), (2, .int v2), (3, .int v3)] → W p l e ({ frames := 0, cells := 0, slots := 0, locals := 0 }) s m [.ref (ad 99), .int x1].toArray below meth c H locs 0 0 (MQ below (Ans G out A (dO G ad d_ad dw ++ [])) [.ref (ad 99), .int x1].toArray s 0 0 A) (F0 m 4 ls []) := by
    intro k4 hk4 v2 v3 hf H locs hw ls hl
    unfold b_X9_rankOf_4 at hf
    refine r_iload0 C hl 3 rfl dX9_rankOf_4 ?_
    refine r_aload0 C hl 0 rfl dX9_rankOf_5 ?_
    refine r_get C hw _ (gx_h dO_o) 5 fl_X9_219 rfl dX9_rankOf_6 ?_
    refine lv_icmp_ge (tgt := 61) C.1 C.2.1 dX9_rankOf_9 (by decide) (fun hc => ?_) (fun hc => ?_)
    · replace hf := ifp hf hc
      refine r_iload0 C hl 2 rfl dX9_rankOf_61 ?_
      exact fin_i C hw (Option.some.inj hf) (fun o => o) (fun o => (dO G ad d_ad dw ++ [])) rfl rfl dX9_rankOf_62
    · replace hf := ifn hf hc
      refine r_iload0 C hl 2 rfl dX9_rankOf_12 ?_
      refine r_aload0 C hl 0 rfl dX9_rankOf_13 ?_
      refine r_get C hw _ (gx_h dO_o) 41 fl_X9_69 rfl dX9_rankOf_14 ?_
      refine r_iload0 C hl 3 rfl dX9_rankOf_17 ?_
      obtain ⟨v1_, e1, hf⟩ := bx hf
      refine r_iald C hw _ (gx_h dO_g41) e1 dX9_rankOf_18 ?_
      refine r_aload0 C hl 0 rfl dX9_rankOf_19 ?_
      refine r_get C hw _ (gx_h dO_o) 41 fl_X9_69 rfl dX9_rankOf_20 ?_
      refine r_iload0 C hl 1 rfl dX9_rankOf_23 ?_
      obtain ⟨v2_, e2, hf⟩ := bx hf
      refine r_iald C hw _ (gx_h dO_g41) e2 dX9_rankOf_24 ?_
      refine lv_icmp_lt (tgt := 48) C.1 C.2.1 dX9_rankOf_25 (by decide) (fun hc => ?_) (fun hc => ?_)
      · replace hf := ifp hf hc
        exact hB_48 k4 hk4 v3 v2 hf _ _ hw _ (lv_sub hl [0, 1, 3] rfl)
      · replace hf := ifn hf hc
        refine r_aload0 C hl 0 rfl dX9_rankOf_28 ?_
        refine r_get C hw _ (gx_h dO_o) 41 fl_X9_69 rfl dX9_rankOf_29 ?_
        refine r_iload0 C hl 3 rfl dX9_rankOf_32 ?_
        obtain ⟨v3_, e3, hf⟩ := bx hf
        refine r_iald C hw _ (gx_h dO_g41) e3 dX9_rankOf_33 ?_
        refine r_aload0 C hl 0 rfl dX9_rankOf_34 ?_
        refine r_get C hw _ (gx_h dO_o) 41 fl_X9_69 rfl dX9_rankOf_35 ?_
        refine r_iload0 C hl 1 rfl dX9_rankOf_38 ?_
        obtain ⟨v4_, e4, hf⟩ := bx hf
        refine r_iald C hw _ (gx_h dO_g41) e4 dX9_rankOf_39 ?_
        refine lv_icmp_ne (tgt := 52) C.1 C.2.1 dX9_rankOf_40 (by decide) (fun hc => ?_) (fun hc => ?_)
        · replace hf := ifn hf hc
          exact hB_52 k4 hk4 v3 v2 hf _ _ hw _ (lv_sub hl [0, 1, 3] rfl)
        · replace hf := ifp hf hc
          refine r_iload0 C hl 3 rfl dX9_rankOf_43 ?_
          refine r_iload0 C hl 1 rfl dX9_rankOf_44 ?_
          refine lv_icmp_ge (tgt := 52) C.1 C.2.1 dX9_rankOf_45 (by decide) (fun hc => ?_) (fun hc => ?_)
          · replace hf := ifp hf hc
            exact hB_52 k4 hk4 v3 v2 hf _ _ hw _ (lv_sub hl [0, 1, 3] rfl)
          · replace hf := ifn hf hc
            exact hB_48 k4 hk4 v3 v2 hf _ _ hw _ (lv_sub hl [0, 1, 3] rfl)
  have hL_4 : ∀ n : Nat, ∀ (v2 : Int32) (v3 : Int32), L_X9_rankOf_4 d_ad x1  n v2 v3 = some out → ∀ (H : Heap) (locs : List Loc), Wd G A s H locs (dO G ad d_ad dw ++ []) → ∀ ls : Array Slot, lv_has ls 4 [(0, .ref (ad 99)), (1, .int x1), (2, .int v2), (3, .int v3)] → W p l e ({ frames := 0, cells := 0, slots := 0, locals := 0 }) s m [.ref (ad 99), .int x1].toArray below meth c H locs 0 0 (MQ below (Ans G out A (dO G ad d_ad dw ++ [])) [.ref (ad 99), .int x1].toArray s 0 0 A) (F0 m 4 ls []) := by
    intro  n
    induction n with
    | zero => intro v2 v3 hf; cases hf
    | succ n ih => exact hB_4 _ ih
  unfold f_X9_rankOf at hf
  refine lv_iconst (v := 0) C.1 C.2.1 dX9_rankOf_0 (by decide) ?_
  refine r_istore0 C hl [(2, .int 0), (0, .ref (ad 99)), (1, .int x1)] (by decide) rfl dX9_rankOf_1 (fun ls hl => ?_)
  refine lv_iconst (v := 0) C.1 C.2.1 dX9_rankOf_2 (by decide) ?_
  refine r_istore0 C hl [(3, .int 0), (2, .int 0), (0, .ref (ad 99)), (1, .int x1)] (by decide) rfl dX9_rankOf_3 (fun ls hl => ?_)
  exact hL_4  FU 0 0 hf _ _ hw _ (lv_sub hl [2, 3, 1, 0] rfl)
set_option maxHeartbeats 4000000 in
set_option maxRecDepth 100000 in
theorem c_X9_ranked (l : Launch) (G : GG) (ad : Nat → Nat) (sz : Nat) (d_ad : Pic) (dw : Int64) (x1 : Int32) (out : Int32 × Pic) (hf : f_X9_ranked d_ad x1 = some out) : Met l yX9_ranked (.code yX9_ranked cX9_ranked 3 (some .int) :: BT) ({ frames := 3, cells := 0, slots := 0, locals := 70 }) (va_Pc [.ref (ad 99), .int x1] (PreW G sz (dO G ad d_ad dw ++ []))) (Ans G out.1 (va_A (dO G ad d_ad dw ++ []) sz) (dO G ad out.2 dw ++ [])) 0 0 (va_A (dO G ad d_ad dw ++ []) sz) := by
  refine Met.into (by decide) (Nat.le_of_ble_eq_true rfl) ?_
  intro p e s m below meth c C hsz ls hl hw
  have hl : lv_has ls 3 [(0, .ref (ad 99)), (1, .int x1)] := hl
  clear hsz
  generalize va_A (dO G ad d_ad dw ++ []) sz = A at hw ⊢
  have hB_24 : ∀ (d_ad : Pic), b_X9_ranked_24 x1  d_ad = some out → ∀ (H : Heap) (locs : List Loc), Wd G A s H locs (dO G ad d_ad dw ++ []) → ∀ ls : Array Slot, lv_has ls 3 [(0, .ref (ad 99))] → W p l e ({ frames := 3, cells := 0, slots := 0, locals := 70 }) s m [.ref (ad 99), .int x1].toArray below meth c H locs 0 0 (MQ below (Ans G out.1 A (dO G ad out.2 dw ++ [])) [.ref (ad 99), .int x1].toArray s 0 0 A) (F0 m 24 ls []) := by
    intro d_ad hf H locs hw ls hl
    unfold b_X9_ranked_24 at hf
    refine r_aload0 C hl 0 rfl dX9_ranked_24 ?_
    refine lv_iconst (v := 1) C.1 C.2.1 dX9_ranked_25 (by decide) ?_
    obtain ⟨u2, e2, hf⟩ := bx hf
    refine r_callVi (ws' := (dO G ad u2.2 dw ++ [])) (As := [.int 1]) (rest := []) C hw hl.1 kX9_refused ml_X9_210 (c_X9_refused l G ad _ d_ad dw 1 u2 e2) (CutX.take dO_f CutX.none) _ (gx_h dO_o) rfl ⟨rfl, rfl⟩ ⟨Nat.le_of_ble_eq_true rfl, Nat.le_of_ble_eq_true rfl⟩ rfl ⟨Nat.zero_le _, Nat.zero_le _⟩ rfl (Nat.le_of_ble_eq_true rfl) dX9_ranked_26 (fun H locs hw => ?_)
    exact fin_i C hw (Option.some.inj hf) (fun o => o.1) (fun o => (dO G ad o.2 dw ++ [])) rfl rfl dX9_ranked_29
  have hB_62 : ∀ (k62 : Pic → Int32 → Option (Int32 × Pic)) (hk62 : ∀ (d_ad : Pic) (v2 : Int32), k62 d_ad v2 = some out → ∀ (H : Heap) (locs : List Loc), Wd G A s H locs (dO G ad d_ad dw ++ []) → ∀ ls : Array Slot, lv_has ls 3 [(0, .ref (ad 99)), (1, .int x1), (2, .int v2)] → W p l e ({ frames := 3, cells := 0, slots := 0, locals := 70 }) s m [.ref (ad 99), .int x1].toArray below meth c H locs 0 0 (MQ below (Ans G out.1 A (dO G ad out.2 dw ++ [])) [.ref (ad 99), .int x1].toArray s 0 0 A) (F0 m 62 ls [])), ∀ (d_ad : Pic) (v2 : Int32), b_X9_ranked_62 x1 k62 d_ad v2 = some out → ∀ (H : Heap) (locs : List Loc), Wd G A s H locs (dO G ad d_ad dw ++ []) → ∀ ls : Array Slot, lv_has ls 3 [(0, .ref (ad 99)), (1, .int x1), (2, .int v2)] → W p l e ({ frames := 3, cells := 0, slots := 0, locals := 70 }) s m [.ref (ad 99), .int x1].toArray below meth c H locs 0 0 (MQ below (Ans G out.1 A (dO G ad out.2 dw ++ [])) [.ref (ad 99), .int x1].toArray s 0 0 A) (F0 m 62 ls []) := by
    intro k62 hk62 d_ad v2 hf H locs hw ls hl
    unfold b_X9_ranked_62 at hf
    refine r_aload0 C hl 0 rfl dX9_ranked_62 ?_
    refine r_iload0 C hl 2 rfl dX9_ranked_63 ?_
    obtain ⟨u3, e3, hf⟩ := bx hf
    refine r_callVi (ws' := (dO G ad d_ad dw ++ [])) (As := [.int v2]) (rest := []) C hw hl.1 kX9_rankOf ml_X9_280 (c_X9_rankOf l G ad _ d_ad dw v2 u3 e3) (CutX.take dO_f CutX.none) _ (gx_h dO_o) rfl ⟨rfl, rfl⟩ ⟨Nat.le_of_ble_eq_true rfl, Nat.le_of_ble_eq_true rfl⟩ rfl ⟨Nat.zero_le _, Nat.zero_le _⟩ rfl (Nat.le_of_ble_eq_true rfl) dX9_ranked_64 (fun H locs hw => ?_)
    refine r_iload0 C hl 1 rfl dX9_ranked_67 ?_
    refine lv_icmp_eq (tgt := 77) C.1 C.2.1 dX9_ranked_68 (by decide) (fun hc => ?_) (fun hc => ?_)
    · replace hf := ifp hf hc
      refine r_aload0 C hl 0 rfl dX9_ranked_77 ?_
      refine r_iload0 C hl 2 rfl dX9_ranked_78 ?_
      obtain ⟨u4, e4, hf⟩ := bx hf
      refine r_callVi (ws' := (dO G ad u4.2 dw ++ [])) (As := [.int v2]) (rest := []) C hw hl.1 kX9_good ml_X9_222 (c_X9_good l G ad _ d_ad dw v2 u4 e4) (CutX.take dO_f CutX.none) _ (gx_h dO_o) rfl ⟨rfl, rfl⟩ ⟨Nat.le_of_ble_eq_true rfl, Nat.le_of_ble_eq_true rfl⟩ rfl ⟨Nat.zero_le _, Nat.zero_le _⟩ rfl (Nat.le_of_ble_eq_true rfl) dX9_ranked_79 (fun H locs hw => ?_)
      exact fin_i C hw (Option.some.inj hf) (fun o => o.1) (fun o => (dO G ad o.2 dw ++ [])) rfl rfl dX9_ranked_82
    · replace hf := ifn hf hc
      refine r_iinc C hl 2 (v2 + 1) [(2, .int (v2 + 1)), (0, .ref (ad 99)), (1, .int x1)] rfl (iinc_e (by decide)) (by decide) rfl dX9_ranked_71 (fun ls hl => ?_)
      refine lv_goto (tgt := 62) C.1 C.2.1 dX9_ranked_74 (by decide) ?_
      exact hk62 d_ad (v2 + 1) hf _ _ hw _ (lv_sub hl [1, 2, 0] rfl)
  have hL_62 : ∀ n : Nat, ∀ (d_ad : Pic) (v2 : Int32), L_X9_ranked_62 x1  n d_ad v2 = some out → ∀ (H : Heap) (locs : List Loc), Wd G A s H locs (dO G ad d_ad dw ++ []) → ∀ ls : Array Slot, lv_has ls 3 [(0, .ref (ad 99)), (1, .int x1), (2, .int v2)] → W p l e ({ frames := 3, cells := 0, slots := 0, locals := 70 }) s m [.ref (ad 99), .int x1].toArray below meth c H locs 0 0 (MQ below (Ans G out.1 A (dO G ad out.2 dw ++ [])) [.ref (ad 99), .int x1].toArray s 0 0 A) (F0 m 62 ls []) := by
    intro  n
    induction n with
    | zero => intro d_ad v2 hf; cases hf
    | succ n ih => exact hB_62 _ ih
  have hB_32 : ∀ (k32 : Pic → Int32 → Option (Int32 × Pic)) (hk32 : ∀ (d_ad : Pic) (v2 : Int32), k32 d_ad v2 = some out → ∀ (H : Heap) (locs : List Loc), Wd G A s H locs (dO G ad d_ad dw ++ []) → ∀ ls : Array Slot, lv_has ls 3 [(0, .ref (ad 99)), (1, .int x1), (2, .int v2)] → W p l e ({ frames := 3, cells := 0, slots := 0, locals := 70 }) s m [.ref (ad 99), .int x1].toArray below meth c H locs 0 0 (MQ below (Ans G out.1 A (dO G ad out.2 dw ++ [])) [.ref (ad 99), .int x1].toArray s 0 0 A) (F0 m 32 ls [])), ∀ (d_ad : Pic) (v2 : Int32), b_X9_ranked_32 x1 k32 d_ad v2 = some out → ∀ (H : Heap) (locs : List Loc), Wd G A s H locs (dO G ad d_ad dw ++ []) → ∀ ls : Array Slot, lv_has ls 3 [(0, .ref (ad 99)), (1, .int x1), (2, .int v2)] → W p l e ({ frames := 3, cells := 0, slots := 0, locals := 70 }) s m [.ref (ad 99), .int x1].toArray below meth c H locs 0 0 (MQ below (Ans G out.1 A (dO G ad out.2 dw ++ [])) [.ref (ad 99), .int x1].toArray s 0 0 A) (F0 m 32 ls []) := by
    intro k32 hk32 d_ad v2 hf H locs hw ls hl
    unfold b_X9_ranked_32 at hf
    refine r_iload0 C hl 2 rfl dX9_ranked_32 ?_
    refine r_aload0 C hl 0 rfl dX9_ranked_33 ?_
    refine r_get C hw _ (gx_h dO_o) 5 fl_X9_219 rfl dX9_ranked_34 ?_
    refine lv_icmp_ge (tgt := 60) C.1 C.2.1 dX9_ranked_37 (by decide) (fun hc => ?_) (fun hc => ?_)
    · replace hf := ifp hf hc
      refine lv_iconst (v := 0) C.1 C.2.1 dX9_ranked_60 (by decide) ?_
      refine r_istore0 C hl [(2, .int 0), (0, .ref (ad 99)), (1, .int x1)] (by decide) rfl dX9_ranked_61 (fun ls hl => ?_)
      exact hL_62  FU d_ad 0 hf _ _ hw _ (lv_sub hl [1, 2, 0] rfl)
    · replace hf := ifn hf hc
      refine r_aload0 C hl 0 rfl dX9_ranked_40 ?_
      refine r_get C hw _ (gx_h dO_o) 41 fl_X9_69 rfl dX9_ranked_41 ?_
      refine r_iload0 C hl 2 rfl dX9_ranked_44 ?_
      refine r_aload0 C hl 0 rfl dX9_ranked_45 ?_
      refine r_iload0 C hl 2 rfl dX9_ranked_46 ?_
      obtain ⟨u5, e5, hf⟩ := bx hf
      refine r_callSi (ws' := (dO G ad d_ad dw ++ [])) (As := [.int v2]) (rest := [.ref (ad 99), .int v2, .ref (ad 41)]) C hw hl.1 kX9_dataAt ml_X9_274 (c_X9_dataAt l G _ v2 u5 e5) CutX.none ⟨rfl, rfl⟩ ⟨Nat.le_of_ble_eq_true rfl, Nat.le_of_ble_eq_true rfl⟩ rfl ⟨Nat.zero_le _, Nat.zero_le _⟩ rfl (Nat.le_of_ble_eq_true rfl) dX9_ranked_47 (fun H locs hw => ?_)
      obtain ⟨u6, e6, hf⟩ := bx hf
      refine r_callVi (ws' := (dO G ad u6.2 dw ++ [])) (As := [.int u5]) (rest := [.int v2, .ref (ad 41)]) C hw hl.1 kX9_cutAll ml_X9_277 (c_X9_cutAll l G ad _ d_ad dw u5 u6 e6) (CutX.take dO_f CutX.none) _ (gx_h dO_o) rfl ⟨rfl, rfl⟩ ⟨Nat.le_of_ble_eq_true rfl, Nat.le_of_ble_eq_true rfl⟩ rfl ⟨Nat.zero_le _, Nat.zero_le _⟩ rfl (Nat.le_of_ble_eq_true rfl) dX9_ranked_50 (fun H locs hw => ?_)
      obtain ⟨d_ad7, e7, hf⟩ := bx hf
      refine r_iast C hw _ (gx_h dO_g41) e7 (dO G ad d_ad7 dw ++ []) (fun h => (sx_h dO_g41 (dO_s41 h))) dX9_ranked_53 (fun H locs hw => ?_)
      refine r_iinc C hl 2 (v2 + 1) [(2, .int (v2 + 1)), (0, .ref (ad 99)), (1, .int x1)] rfl (iinc_e (by decide)) (by decide) rfl dX9_ranked_54 (fun ls hl => ?_)
      refine lv_goto (tgt := 32) C.1 C.2.1 dX9_ranked_57 (by decide) ?_
      exact hk32 d_ad7 (v2 + 1) hf _ _ hw _ (lv_sub hl [1, 2, 0] rfl)
  have hL_32 : ∀ n : Nat, ∀ (d_ad : Pic) (v2 : Int32), L_X9_ranked_32 x1  n d_ad v2 = some out → ∀ (H : Heap) (locs : List Loc), Wd G A s H locs (dO G ad d_ad dw ++ []) → ∀ ls : Array Slot, lv_has ls 3 [(0, .ref (ad 99)), (1, .int x1), (2, .int v2)] → W p l e ({ frames := 3, cells := 0, slots := 0, locals := 70 }) s m [.ref (ad 99), .int x1].toArray below meth c H locs 0 0 (MQ below (Ans G out.1 A (dO G ad out.2 dw ++ [])) [.ref (ad 99), .int x1].toArray s 0 0 A) (F0 m 32 ls []) := by
    intro  n
    induction n with
    | zero => intro d_ad v2 hf; cases hf
    | succ n ih => exact hB_32 _ ih
  unfold f_X9_ranked at hf
  refine r_aload0 C hl 0 rfl dX9_ranked_0 ?_
  refine lv_iconst (v := 0) C.1 C.2.1 dX9_ranked_1 (by decide) ?_
  obtain ⟨d_ad1, e1, hf⟩ := bx hf
  refine r_put C hw _ (gx_h dO_o) 0 fp_X9_75 rfl rfl (Nat.le_of_ble_eq_true rfl) (dO G ad d_ad1 dw ++ []) (sx_h dO_o (dO_p0 e1)) dX9_ranked_2 (fun H locs hw => ?_)
  refine r_aload0 C hl 0 rfl dX9_ranked_5 ?_
  refine r_get C hw _ (gx_h dO_o) 19 fl_X9_225 rfl dX9_ranked_6 ?_
  refine lv_if_eq (tgt := 24) C.1 C.2.1 dX9_ranked_9 (by decide) (fun hc => ?_) (fun hc => ?_)
  · replace hf := ifp hf hc
    exact hB_24  d_ad1 hf _ _ hw _ (lv_sub hl [0] rfl)
  · replace hf := ifn hf hc
    refine r_iload0 C hl 1 rfl dX9_ranked_12 ?_
    refine lv_if_lt (tgt := 24) C.1 C.2.1 dX9_ranked_13 (by decide) (fun hc => ?_) (fun hc => ?_)
    · replace hf := ifp hf hc
      exact hB_24  d_ad1 hf _ _ hw _ (lv_sub hl [0] rfl)
    · replace hf := ifn hf hc
      refine r_iload0 C hl 1 rfl dX9_ranked_16 ?_
      refine r_aload0 C hl 0 rfl dX9_ranked_17 ?_
      refine r_get C hw _ (gx_h dO_o) 5 fl_X9_219 rfl dX9_ranked_18 ?_
      refine lv_icmp_lt (tgt := 30) C.1 C.2.1 dX9_ranked_21 (by decide) (fun hc => ?_) (fun hc => ?_)
      · replace hf := ifp hf hc
        refine lv_iconst (v := 0) C.1 C.2.1 dX9_ranked_30 (by decide) ?_
        refine r_istore0 C hl [(2, .int 0), (0, .ref (ad 99)), (1, .int x1)] (by decide) rfl dX9_ranked_31 (fun ls hl => ?_)
        exact hL_32  FU d_ad1 0 hf _ _ hw _ (lv_sub hl [1, 2, 0] rfl)
      · replace hf := ifn hf hc
        exact hB_24  d_ad1 hf _ _ hw _ (lv_sub hl [0] rfl)
set_option maxHeartbeats 4000000 in
set_option maxRecDepth 100000 in
theorem c_X9_sort (l : Launch) (G : GG) (ad : Nat → Nat) (sz : Nat) (d_ad : Pic) (dw : Int64) (x1 : Int32) (out : Int32 × Pic) (hf : f_X9_sort d_ad x1 = some out) : Met l yX9_sort (.code yX9_sort cX9_sort 2 (some .int) :: BT) ({ frames := 3, cells := 0, slots := 0, locals := 70 }) (va_Pc [.ref (ad 99), .int x1] (PreW G sz (dO G ad d_ad dw ++ []))) (Ans G out.1 (va_A (dO G ad d_ad dw ++ []) sz) (dO G ad out.2 dw ++ [])) 0 0 (va_A (dO G ad d_ad dw ++ []) sz) := by
  refine Met.into (by decide) (Nat.le_of_ble_eq_true rfl) ?_
  intro p e s m below meth c C hsz ls hl hw
  have hl : lv_has ls 2 [(0, .ref (ad 99)), (1, .int x1)] := hl
  clear hsz
  generalize va_A (dO G ad d_ad dw ++ []) sz = A at hw ⊢
  have hB_55 : ∀ (d_ad : Pic) (t0 : Int32), b_X9_sort_55 x1  d_ad t0 = some out → ∀ (H : Heap) (locs : List Loc), Wd G A s H locs (dO G ad d_ad dw ++ []) → ∀ ls : Array Slot, lv_has ls 2 [] → W p l e ({ frames := 3, cells := 0, slots := 0, locals := 70 }) s m [.ref (ad 99), .int x1].toArray below meth c H locs 0 0 (MQ below (Ans G out.1 A (dO G ad out.2 dw ++ [])) [.ref (ad 99), .int x1].toArray s 0 0 A) (F0 m 55 ls [.int t0, .ref (ad 99)]) := by
    intro d_ad t0 hf H locs hw ls hl
    unfold b_X9_sort_55 at hf
    obtain ⟨u7, e7, hf⟩ := bx hf
    refine r_callVi (ws' := (dO G ad u7.2 dw ++ [])) (As := [.int t0]) (rest := []) C hw hl.1 kX9_good ml_X9_222 (c_X9_good l G ad _ d_ad dw t0 u7 e7) (CutX.take dO_f CutX.none) _ (gx_h dO_o) rfl ⟨rfl, rfl⟩ ⟨Nat.le_of_ble_eq_true rfl, Nat.le_of_ble_eq_true rfl⟩ rfl ⟨Nat.zero_le _, Nat.zero_le _⟩ rfl (Nat.le_of_ble_eq_true rfl) dX9_sort_55 (fun H locs hw => ?_)
    exact fin_i C hw (Option.some.inj hf) (fun o => o.1) (fun o => (dO G ad o.2 dw ++ [])) rfl rfl dX9_sort_58
  unfold f_X9_sort at hf
  refine r_aload0 C hl 0 rfl dX9_sort_0 ?_
  refine lv_iconst (v := 0) C.1 C.2.1 dX9_sort_1 (by decide) ?_
  obtain ⟨d_ad1, e1, hf⟩ := bx hf
  refine r_put C hw _ (gx_h dO_o) 0 fp_X9_75 rfl rfl (Nat.le_of_ble_eq_true rfl) (dO G ad d_ad1 dw ++ []) (sx_h dO_o (dO_p0 e1)) dX9_sort_2 (fun H locs hw => ?_)
  refine r_aload0 C hl 0 rfl dX9_sort_5 ?_
  refine r_iload0 C hl 1 rfl dX9_sort_6 ?_
  obtain ⟨u2, e2, hf⟩ := bx hf
  refine r_callVi (ws' := (dO G ad d_ad1 dw ++ [])) (As := [.int x1]) (rest := []) C hw hl.1 kX9_isData ml_X9_271 (c_X9_isData l G ad _ d_ad1 dw x1 u2 e2) (CutX.take dO_f CutX.none) _ (gx_h dO_o) rfl ⟨rfl, rfl⟩ ⟨Nat.le_of_ble_eq_true rfl, Nat.le_of_ble_eq_true rfl⟩ rfl ⟨Nat.zero_le _, Nat.zero_le _⟩ rfl (Nat.le_of_ble_eq_true rfl) dX9_sort_7 (fun H locs hw => ?_)
  refine lv_if_ne (tgt := 19) C.1 C.2.1 dX9_sort_10 (by decide) (fun hc => ?_) (fun hc => ?_)
  · replace hf := ifn hf hc
    refine r_aload0 C hl 0 rfl dX9_sort_19 ?_
    refine r_aload0 C hl 0 rfl dX9_sort_20 ?_
    refine r_iload0 C hl 1 rfl dX9_sort_21 ?_
    obtain ⟨u3, e3, hf⟩ := bx hf
    refine r_callSi (ws' := (dO G ad d_ad1 dw ++ [])) (As := [.int x1]) (rest := [.ref (ad 99), .ref (ad 99)]) C hw hl.1 kX9_dataAt ml_X9_274 (c_X9_dataAt l G _ x1 u3 e3) CutX.none ⟨rfl, rfl⟩ ⟨Nat.le_of_ble_eq_true rfl, Nat.le_of_ble_eq_true rfl⟩ rfl ⟨Nat.zero_le _, Nat.zero_le _⟩ rfl (Nat.le_of_ble_eq_true rfl) dX9_sort_22 (fun H locs hw => ?_)
    obtain ⟨u4, e4, hf⟩ := bx hf
    refine r_callVi (ws' := (dO G ad u4.2 dw ++ [])) (As := [.int u3]) (rest := [.ref (ad 99)]) C hw hl.1 kX9_areAlike ml_X9_283 (c_X9_areAlike l G ad _ d_ad1 dw u3 u4 e4) (CutX.take dO_f CutX.none) _ (gx_h dO_o) rfl ⟨rfl, rfl⟩ ⟨Nat.le_of_ble_eq_true rfl, Nat.le_of_ble_eq_true rfl⟩ rfl ⟨Nat.zero_le _, Nat.zero_le _⟩ rfl (Nat.le_of_ble_eq_true rfl) dX9_sort_25 (fun H locs hw => ?_)
    refine lv_if_eq (tgt := 35) C.1 C.2.1 dX9_sort_28 (by decide) (fun hc => ?_) (fun hc => ?_)
    · replace hf := ifp hf hc
      refine r_aload0 C hl 0 rfl dX9_sort_35 ?_
      refine r_iload0 C hl 1 rfl dX9_sort_36 ?_
      obtain ⟨u5, e5, hf⟩ := bx hf
      refine r_callSi (ws' := (dO G ad u4.2 dw ++ [])) (As := [.int x1]) (rest := [.ref (ad 99), .ref (ad 99)]) C hw hl.1 kX9_dataAt ml_X9_274 (c_X9_dataAt l G _ x1 u5 e5) CutX.none ⟨rfl, rfl⟩ ⟨Nat.le_of_ble_eq_true rfl, Nat.le_of_ble_eq_true rfl⟩ rfl ⟨Nat.zero_le _, Nat.zero_le _⟩ rfl (Nat.le_of_ble_eq_true rfl) dX9_sort_37 (fun H locs hw => ?_)
      obtain ⟨u6, e6, hf⟩ := bx hf
      refine r_callVi (ws' := (dO G ad u6.2 dw ++ [])) (As := [.int u5]) (rest := [.ref (ad 99)]) C hw hl.1 kX9_cutAll ml_X9_277 (c_X9_cutAll l G ad _ u4.2 dw u5 u6 e6) (CutX.take dO_f CutX.none) _ (gx_h dO_o) rfl ⟨rfl, rfl⟩ ⟨Nat.le_of_ble_eq_true rfl, Nat.le_of_ble_eq_true rfl⟩ rfl ⟨Nat.zero_le _, Nat.zero_le _⟩ rfl (Nat.le_of_ble_eq_true rfl) dX9_sort_40 (fun H locs hw => ?_)
      refine r_aload0 C hl 0 rfl dX9_sort_43 ?_
      refine r_get C hw _ (gx_h dO_o) 4 fl_X9_231 rfl dX9_sort_44 ?_
      refine lv_icmp_le (tgt := 54) C.1 C.2.1 dX9_sort_47 (by decide) (fun hc => ?_) (fun hc => ?_)
      · replace hf := ifp hf hc
        refine lv_iconst (v := 0) C.1 C.2.1 dX9_sort_54 (by decide) ?_
        exact hB_55  u6.2 0 hf _ _ hw _ (lv_sub hl [] rfl)
      · replace hf := ifn hf hc
        refine lv_iconst (v := 2) C.1 C.2.1 dX9_sort_50 (by decide) ?_
        refine lv_goto (tgt := 55) C.1 C.2.1 dX9_sort_51 (by decide) ?_
        exact hB_55  u6.2 2 hf _ _ hw _ (lv_sub hl [] rfl)
    · replace hf := ifn hf hc
      refine lv_iconst (v := 1) C.1 C.2.1 dX9_sort_31 (by decide) ?_
      refine lv_goto (tgt := 55) C.1 C.2.1 dX9_sort_32 (by decide) ?_
      exact hB_55  u4.2 1 hf _ _ hw _ (lv_sub hl [] rfl)
  · replace hf := ifp hf hc
    refine r_aload0 C hl 0 rfl dX9_sort_13 ?_
    refine lv_iconst (v := 1) C.1 C.2.1 dX9_sort_14 (by decide) ?_
    obtain ⟨u8, e8, hf⟩ := bx hf
    refine r_callVi (ws' := (dO G ad u8.2 dw ++ [])) (As := [.int 1]) (rest := []) C hw hl.1 kX9_refused ml_X9_210 (c_X9_refused l G ad _ d_ad1 dw 1 u8 e8) (CutX.take dO_f CutX.none) _ (gx_h dO_o) rfl ⟨rfl, rfl⟩ ⟨Nat.le_of_ble_eq_true rfl, Nat.le_of_ble_eq_true rfl⟩ rfl ⟨Nat.zero_le _, Nat.zero_le _⟩ rfl (Nat.le_of_ble_eq_true rfl) dX9_sort_15 (fun H locs hw => ?_)
    exact fin_i C hw (Option.some.inj hf) (fun o => o.1) (fun o => (dO G ad o.2 dw ++ [])) rfl rfl dX9_sort_18
set_option maxHeartbeats 4000000 in
set_option maxRecDepth 100000 in
theorem c_X9_homeOf (l : Launch) (G : GG)  (sz : Nat)  (x0 : Int32) (x1 : Int32) (out : Int32) (hf : f_X9_homeOf x0 x1 = some out) : Met l yX9_homeOf (.code yX9_homeOf cX9_homeOf 2 (some .int) :: BT) ({ frames := 0, cells := 0, slots := 0, locals := 0 }) (va_Pc [.int x0, .int x1] (PreW G sz [])) (Ans G out (va_A [] sz) []) 0 0 (va_A [] sz) := by
  refine Met.into (by decide) (Nat.le_of_ble_eq_true rfl) ?_
  intro p e s m below meth c C hsz ls hl hw
  have hl : lv_has ls 2 [(0, .int x0), (1, .int x1)] := hl
  clear hsz
  generalize va_A [] sz = A at hw ⊢
  unfold f_X9_homeOf at hf
  refine r_iload0 C hl 0 rfl dX9_homeOf_0 ?_
  refine r_iload0 C hl 1 rfl dX9_homeOf_1 ?_
  refine lv_iadd C.1 C.2.1 dX9_homeOf_2 ?_
  refine lv_iconst (v := 1) C.1 C.2.1 dX9_homeOf_3 (by decide) ?_
  refine lv_isub C.1 C.2.1 dX9_homeOf_4 ?_
  refine r_iload0 C hl 1 rfl dX9_homeOf_5 ?_
  obtain ⟨v1_, e1, hf⟩ := bx hf
  refine r_idiv C e1 dX9_homeOf_6 ?_
  refine r_iload0 C hl 1 rfl dX9_homeOf_7 ?_
  refine lv_imul C.1 C.2.1 dX9_homeOf_8 ?_
  exact fin_i C hw (Option.some.inj hf) (fun o => o) (fun o => []) rfl rfl dX9_homeOf_9
set_option maxHeartbeats 4000000 in
set_option maxRecDepth 100000 in
theorem c_X9_framesOf (l : Launch) (G : GG)  (sz : Nat)  (x0 : Int32) (out : Int32) (hf : f_X9_framesOf x0 = some out) : Met l yX9_framesOf (.code yX9_framesOf cX9_framesOf 3 (some .int) :: BT) ({ frames := 0, cells := 0, slots := 0, locals := 0 }) (va_Pc [.int x0] (PreW G sz [])) (Ans G out (va_A [] sz) []) 0 0 (va_A [] sz) := by
  refine Met.into (by decide) (Nat.le_of_ble_eq_true rfl) ?_
  intro p e s m below meth c C hsz ls hl hw
  have hl : lv_has ls 3 [(0, .int x0)] := hl
  clear hsz
  generalize va_A [] sz = A at hw ⊢
  have hB_4 : ∀ (k4 : Int32 → Int32 → Option (Int32)) (hk4 : ∀ (v1 : Int32) (v2 : Int32), k4 v1 v2 = some out → ∀ (H : Heap) (locs : List Loc), Wd G A s H locs [] → ∀ ls : Array Slot, lv_has ls 3 [(0, .int x0), (1, .int v1), (2, .int v2)] → W p l e ({ frames := 0, cells := 0, slots := 0, locals := 0 }) s m [.int x0].toArray below meth c H locs 0 0 (MQ below (Ans G out A []) [.int x0].toArray s 0 0 A) (F0 m 4 ls [])), ∀ (v1 : Int32) (v2 : Int32), b_X9_framesOf_4 x0 k4 v1 v2 = some out → ∀ (H : Heap) (locs : List Loc), Wd G A s H locs [] → ∀ ls : Array Slot, lv_has ls 3 [(0, .int x0), (1, .int v1), (2, .int v2)] → W p l e ({ frames := 0, cells := 0, slots := 0, locals := 0 }) s m [.int x0].toArray below meth c H locs 0 0 (MQ below (Ans G out A []) [.int x0].toArray s 0 0 A) (F0 m 4 ls []) := by
    intro k4 hk4 v1 v2 hf H locs hw ls hl
    unfold b_X9_framesOf_4 at hf
    refine r_iload0 C hl 2 rfl dX9_framesOf_4 ?_
    refine lv_iconst (v := 4) C.1 C.2.1 dX9_framesOf_5 (by decide) ?_
    refine lv_icmp_gt (tgt := 36) C.1 C.2.1 dX9_framesOf_6 (by decide) (fun hc => ?_) (fun hc => ?_)
    · replace hf := ifp hf hc
      refine r_iload0 C hl 1 rfl dX9_framesOf_36 ?_
      exact fin_i C hw (Option.some.inj hf) (fun o => o) (fun o => []) rfl rfl dX9_framesOf_37
    · replace hf := ifn hf hc
      refine lv_bipush (v := 16) C.1 C.2.1 dX9_framesOf_9 (by decide) ?_
      refine r_iload0 C hl 2 rfl dX9_framesOf_11 ?_
      refine lv_imul C.1 C.2.1 dX9_framesOf_12 ?_
      refine r_iload0 C hl 0 rfl dX9_framesOf_13 ?_
      obtain ⟨v1_, e1, hf⟩ := bx hf
      refine r_irem C e1 dX9_framesOf_14 ?_
      refine r_iload0 C hl 1 rfl dX9_framesOf_15 ?_
      refine lv_imul C.1 C.2.1 dX9_framesOf_16 ?_
      refine lv_bipush (v := 16) C.1 C.2.1 dX9_framesOf_17 (by decide) ?_
      refine r_iload0 C hl 1 rfl dX9_framesOf_19 ?_
      refine lv_imul C.1 C.2.1 dX9_framesOf_20 ?_
      refine r_iload0 C hl 0 rfl dX9_framesOf_21 ?_
      obtain ⟨v2_, e2, hf⟩ := bx hf
      refine r_irem C e2 dX9_framesOf_22 ?_
      refine r_iload0 C hl 2 rfl dX9_framesOf_23 ?_
      refine lv_imul C.1 C.2.1 dX9_framesOf_24 ?_
      refine lv_icmp_ge (tgt := 30) C.1 C.2.1 dX9_framesOf_25 (by decide) (fun hc => ?_) (fun hc => ?_)
      · replace hf := ifp hf hc
        refine r_iinc C hl 2 (v2 + 1) [(2, .int (v2 + 1)), (0, .int x0), (1, .int v1)] rfl (iinc_e (by decide)) (by decide) rfl dX9_framesOf_30 (fun ls hl => ?_)
        refine lv_goto (tgt := 4) C.1 C.2.1 dX9_framesOf_33 (by decide) ?_
        exact hk4 v1 (v2 + 1) hf _ _ hw _ (lv_sub hl [1, 2, 0] rfl)
      · replace hf := ifn hf hc
        refine r_iload0 C hl 2 rfl dX9_framesOf_28 ?_
        refine r_istore0 C hl [(1, .int v2), (0, .int x0), (2, .int v2)] (by decide) rfl dX9_framesOf_29 (fun ls hl => ?_)
        refine r_iinc C hl 2 (v2 + 1) [(2, .int (v2 + 1)), (1, .int v2), (0, .int x0)] rfl (iinc_e (by decide)) (by decide) rfl dX9_framesOf_30 (fun ls hl => ?_)
        refine lv_goto (tgt := 4) C.1 C.2.1 dX9_framesOf_33 (by decide) ?_
        exact hk4 v2 (v2 + 1) hf _ _ hw _ (lv_sub hl [2, 1, 0] rfl)
  have hL_4 : ∀ n : Nat, ∀ (v1 : Int32) (v2 : Int32), L_X9_framesOf_4 x0  n v1 v2 = some out → ∀ (H : Heap) (locs : List Loc), Wd G A s H locs [] → ∀ ls : Array Slot, lv_has ls 3 [(0, .int x0), (1, .int v1), (2, .int v2)] → W p l e ({ frames := 0, cells := 0, slots := 0, locals := 0 }) s m [.int x0].toArray below meth c H locs 0 0 (MQ below (Ans G out A []) [.int x0].toArray s 0 0 A) (F0 m 4 ls []) := by
    intro  n
    induction n with
    | zero => intro v1 v2 hf; cases hf
    | succ n ih => exact hB_4 _ ih
  unfold f_X9_framesOf at hf
  refine lv_iconst (v := 1) C.1 C.2.1 dX9_framesOf_0 (by decide) ?_
  refine r_istore0 C hl [(1, .int 1), (0, .int x0)] (by decide) rfl dX9_framesOf_1 (fun ls hl => ?_)
  refine lv_iconst (v := 2) C.1 C.2.1 dX9_framesOf_2 (by decide) ?_
  refine r_istore0 C hl [(2, .int 2), (1, .int 1), (0, .int x0)] (by decide) rfl dX9_framesOf_3 (fun ls hl => ?_)
  exact hL_4  FU 1 2 hf _ _ hw _ (lv_sub hl [2, 1, 0] rfl)
set_option maxHeartbeats 4000000 in
set_option maxRecDepth 100000 in
theorem c_X9_slotsOf (l : Launch) (G : GG)  (sz : Nat)  (x0 : Int32) (out : Int32) (hf : f_X9_slotsOf x0 = some out) : Met l yX9_slotsOf (.code yX9_slotsOf cX9_slotsOf 1 (some .int) :: BT) ({ frames := 1, cells := 0, slots := 0, locals := 22 }) (va_Pc [.int x0] (PreW G sz [])) (Ans G out (va_A [] sz) []) 0 0 (va_A [] sz) := by
  refine Met.into (by decide) (Nat.le_of_ble_eq_true rfl) ?_
  intro p e s m below meth c C hsz ls hl hw
  have hl : lv_has ls 1 [(0, .int x0)] := hl
  clear hsz
  generalize va_A [] sz = A at hw ⊢
  unfold f_X9_slotsOf at hf
  refine lv_bipush (v := 16) C.1 C.2.1 dX9_slotsOf_0 (by decide) ?_
  refine r_iload0 C hl 0 rfl dX9_slotsOf_2 ?_
  obtain ⟨u1, e1, hf⟩ := bx hf
  refine r_callSi (ws' := []) (As := [.int x0]) (rest := [.int 16]) C hw hl.1 kX9_framesOf ml_X9_286 (c_X9_framesOf l G _ x0 u1 e1) CutX.none ⟨rfl, rfl⟩ ⟨Nat.le_of_ble_eq_true rfl, Nat.le_of_ble_eq_true rfl⟩ rfl ⟨Nat.zero_le _, Nat.zero_le _⟩ rfl (Nat.le_of_ble_eq_true rfl) dX9_slotsOf_3 (fun H locs hw => ?_)
  refine lv_imul C.1 C.2.1 dX9_slotsOf_6 ?_
  refine r_iload0 C hl 0 rfl dX9_slotsOf_7 ?_
  obtain ⟨v2_, e2, hf⟩ := bx hf
  refine r_idiv C e2 dX9_slotsOf_8 ?_
  exact fin_i C hw (Option.some.inj hf) (fun o => o) (fun o => []) rfl rfl dX9_slotsOf_9
set_option maxHeartbeats 4000000 in
set_option maxRecDepth 100000 in
theorem c_X9_home (l : Launch) (G : GG) (ad : Nat → Nat) (sz : Nat) (d_ad : Pic) (dw : Int64) (x1 : Int32) (out : Int32 × Pic) (hf : f_X9_home d_ad x1 = some out) : Met l yX9_home (.code yX9_home cX9_home 2 (some .int) :: BT) ({ frames := 1, cells := 0, slots := 0, locals := 22 }) (va_Pc [.ref (ad 99), .int x1] (PreW G sz (dO G ad d_ad dw ++ []))) (Ans G out.1 (va_A (dO G ad d_ad dw ++ []) sz) (dO G ad out.2 dw ++ [])) 0 0 (va_A (dO G ad d_ad dw ++ []) sz) := by
  refine Met.into (by decide) (Nat.le_of_ble_eq_true rfl) ?_
  intro p e s m below meth c C hsz ls hl hw
  have hl : lv_has ls 2 [(0, .ref (ad 99)), (1, .int x1)] := hl
  clear hsz
  generalize va_A (dO G ad d_ad dw ++ []) sz = A at hw ⊢
  unfold f_X9_home at hf
  refine r_aload0 C hl 0 rfl dX9_home_0 ?_
  refine lv_iconst (v := 0) C.1 C.2.1 dX9_home_1 (by decide) ?_
  obtain ⟨d_ad1, e1, hf⟩ := bx hf
  refine r_put C hw _ (gx_h dO_o) 0 fp_X9_75 rfl rfl (Nat.le_of_ble_eq_true rfl) (dO G ad d_ad1 dw ++ []) (sx_h dO_o (dO_p0 e1)) dX9_home_2 (fun H locs hw => ?_)
  refine r_aload0 C hl 0 rfl dX9_home_5 ?_
  refine r_get C hw _ (gx_h dO_o) 19 fl_X9_225 rfl dX9_home_6 ?_
  refine lv_if_ne (tgt := 18) C.1 C.2.1 dX9_home_9 (by decide) (fun hc => ?_) (fun hc => ?_)
  · replace hf := ifn hf hc
    refine r_iload0 C hl 1 rfl dX9_home_18 ?_
    refine lv_iconst (v := 2) C.1 C.2.1 dX9_home_19 (by decide) ?_
    refine lv_bipush (v := 15) C.1 C.2.1 dX9_home_20 (by decide) ?_
    obtain ⟨u2, e2, hf⟩ := bx hf
    refine r_callSi (ws' := (dO G ad d_ad1 dw ++ [])) (As := [.int x1, .int 2, .int 15]) (rest := []) C hw hl.1 kX9_in ml_X9_100 (c_X9_in l G _ x1 2 15 u2 e2) CutX.none ⟨rfl, rfl⟩ ⟨Nat.le_of_ble_eq_true rfl, Nat.le_of_ble_eq_true rfl⟩ rfl ⟨Nat.zero_le _, Nat.zero_le _⟩ rfl (Nat.le_of_ble_eq_true rfl) dX9_home_22 (fun H locs hw => ?_)
    refine lv_if_eq (tgt := 43) C.1 C.2.1 dX9_home_25 (by decide) (fun hc => ?_) (fun hc => ?_)
    · replace hf := ifp hf hc
      refine r_aload0 C hl 0 rfl dX9_home_43 ?_
      refine lv_iconst (v := 2) C.1 C.2.1 dX9_home_44 (by decide) ?_
      obtain ⟨u3, e3, hf⟩ := bx hf
      refine r_callVi (ws' := (dO G ad u3.2 dw ++ [])) (As := [.int 2]) (rest := []) C hw hl.1 kX9_refused ml_X9_210 (c_X9_refused l G ad _ d_ad1 dw 2 u3 e3) (CutX.take dO_f CutX.none) _ (gx_h dO_o) rfl ⟨rfl, rfl⟩ ⟨Nat.le_of_ble_eq_true rfl, Nat.le_of_ble_eq_true rfl⟩ rfl ⟨Nat.zero_le _, Nat.zero_le _⟩ rfl (Nat.le_of_ble_eq_true rfl) dX9_home_45 (fun H locs hw => ?_)
      exact fin_i C hw (Option.some.inj hf) (fun o => o.1) (fun o => (dO G ad o.2 dw ++ [])) rfl rfl dX9_home_48
    · replace hf := ifn hf hc
      refine r_aload0 C hl 0 rfl dX9_home_28 ?_
      refine r_iload0 C hl 1 rfl dX9_home_29 ?_
      refine r_aload0 C hl 0 rfl dX9_home_30 ?_
      refine r_get C hw _ (gx_h dO_o) 3 fl_X9_229 rfl dX9_home_31 ?_
      obtain ⟨u4, e4, hf⟩ := bx hf
      refine r_callSi (ws' := (dO G ad d_ad1 dw ++ [])) (As := [.int x1, .int (gS d_ad1 3)]) (rest := [.ref (ad 99)]) C hw hl.1 kX9_homeOf ml_X9_289 (c_X9_homeOf l G _ x1 (gS d_ad1 3) u4 e4) CutX.none ⟨rfl, rfl⟩ ⟨Nat.le_of_ble_eq_true rfl, Nat.le_of_ble_eq_true rfl⟩ rfl ⟨Nat.zero_le _, Nat.zero_le _⟩ rfl (Nat.le_of_ble_eq_true rfl) dX9_home_34 (fun H locs hw => ?_)
      obtain ⟨u5, e5, hf⟩ := bx hf
      refine r_callVi (ws' := (dO G ad u5.2 dw ++ [])) (As := [.int u4]) (rest := []) C hw hl.1 kX9_good ml_X9_222 (c_X9_good l G ad _ d_ad1 dw u4 u5 e5) (CutX.take dO_f CutX.none) _ (gx_h dO_o) rfl ⟨rfl, rfl⟩ ⟨Nat.le_of_ble_eq_true rfl, Nat.le_of_ble_eq_true rfl⟩ rfl ⟨Nat.zero_le _, Nat.zero_le _⟩ rfl (Nat.le_of_ble_eq_true rfl) dX9_home_37 (fun H locs hw => ?_)
      refine lv_goto (tgt := 48) C.1 C.2.1 dX9_home_40 (by decide) ?_
      exact fin_i C hw (Option.some.inj hf) (fun o => o.1) (fun o => (dO G ad o.2 dw ++ [])) rfl rfl dX9_home_48
  · replace hf := ifp hf hc
    refine r_aload0 C hl 0 rfl dX9_home_12 ?_
    refine lv_iconst (v := 1) C.1 C.2.1 dX9_home_13 (by decide) ?_
    obtain ⟨u6, e6, hf⟩ := bx hf
    refine r_callVi (ws' := (dO G ad u6.2 dw ++ [])) (As := [.int 1]) (rest := []) C hw hl.1 kX9_refused ml_X9_210 (c_X9_refused l G ad _ d_ad1 dw 1 u6 e6) (CutX.take dO_f CutX.none) _ (gx_h dO_o) rfl ⟨rfl, rfl⟩ ⟨Nat.le_of_ble_eq_true rfl, Nat.le_of_ble_eq_true rfl⟩ rfl ⟨Nat.zero_le _, Nat.zero_le _⟩ rfl (Nat.le_of_ble_eq_true rfl) dX9_home_14 (fun H locs hw => ?_)
    exact fin_i C hw (Option.some.inj hf) (fun o => o.1) (fun o => (dO G ad o.2 dw ++ [])) rfl rfl dX9_home_17
