set_option maxHeartbeats 4000000 in
set_option maxRecDepth 100000 in
theorem c_X9_waste (l : Launch) (G : GG) (ad : Nat → Nat) (sz : Nat) (d_ad : Pic) (dw : Int64)  (out : Int32 × Pic) (hf : f_X9_waste d_ad = some out) : Met l yX9_waste (.code yX9_waste cX9_waste 1 (some .int) :: BT) ({ frames := 2, cells := 0, slots := 0, locals := 44 }) (va_Pc [.ref (ad 99)] (PreW G sz (dO G ad d_ad dw ++ []))) (Ans G out.1 (va_A (dO G ad d_ad dw ++ []) sz) (dO G ad out.2 dw ++ [])) 0 0 (va_A (dO G ad d_ad dw ++ []) sz) := by
  refine Met.into (by decide) (Nat.le_of_ble_eq_true rfl) ?_
  intro p e s m below meth c C hsz ls hl hw
  have hl : lv_has ls 1 [(0, .ref (ad 99))] := hl
  clear hsz
  generalize va_A (dO G ad d_ad dw ++ []) sz = A at hw ⊢
  unfold f_X9_waste at hf
  refine r_aload0 C hl 0 rfl dX9_waste_0 ?_
  refine lv_iconst (v := 0) C.1 C.2.1 dX9_waste_1 (by decide) ?_
  obtain ⟨d_ad1, e1, hf⟩ := bx hf
  refine r_put C hw _ (gx_h dO_o) 0 fp_X9_75 rfl rfl (Nat.le_of_ble_eq_true rfl) (dO G ad d_ad1 dw ++ []) (sx_h dO_o (dO_p0 e1)) dX9_waste_2 (fun H locs hw => ?_)
  refine r_aload0 C hl 0 rfl dX9_waste_5 ?_
  refine r_get C hw _ (gx_h dO_o) 19 fl_X9_225 rfl dX9_waste_6 ?_
  refine lv_if_ne (tgt := 18) C.1 C.2.1 dX9_waste_9 (by decide) (fun hc => ?_) (fun hc => ?_)
  · replace hf := ifn hf hc
    refine r_aload0 C hl 0 rfl dX9_waste_18 ?_
    refine lv_bipush (v := 16) C.1 C.2.1 dX9_waste_19 (by decide) ?_
    refine r_aload0 C hl 0 rfl dX9_waste_21 ?_
    obtain ⟨u2, e2, hf⟩ := bx hf
    refine r_callVi (ws' := (dO G ad d_ad1 dw ++ [])) (As := []) (rest := [.int 16, .ref (ad 99)]) C hw hl.1 kX9_framesNow ml_X9_356 (c_X9_framesNow l G ad _ d_ad1 dw u2 e2) (CutX.take dO_f CutX.none) _ (gx_h dO_o) rfl ⟨rfl, rfl⟩ ⟨Nat.le_of_ble_eq_true rfl, Nat.le_of_ble_eq_true rfl⟩ rfl ⟨Nat.zero_le _, Nat.zero_le _⟩ rfl (Nat.le_of_ble_eq_true rfl) dX9_waste_22 (fun H locs hw => ?_)
    refine lv_imul C.1 C.2.1 dX9_waste_25 ?_
    refine r_aload0 C hl 0 rfl dX9_waste_26 ?_
    obtain ⟨u3, e3, hf⟩ := bx hf
    refine r_callVi (ws' := (dO G ad d_ad1 dw ++ [])) (As := []) (rest := [.int (16 * u2), .ref (ad 99)]) C hw hl.1 kX9_sizesTogether ml_X9_377 (c_X9_sizesTogether l G ad _ d_ad1 dw u3 e3) (CutX.take dO_f CutX.none) _ (gx_h dO_o) rfl ⟨rfl, rfl⟩ ⟨Nat.le_of_ble_eq_true rfl, Nat.le_of_ble_eq_true rfl⟩ rfl ⟨Nat.zero_le _, Nat.zero_le _⟩ rfl (Nat.le_of_ble_eq_true rfl) dX9_waste_27 (fun H locs hw => ?_)
    refine lv_isub C.1 C.2.1 dX9_waste_30 ?_
    obtain ⟨u4, e4, hf⟩ := bx hf
    refine r_callVi (ws' := (dO G ad u4.2 dw ++ [])) (As := [.int ((16 * u2) - u3)]) (rest := []) C hw hl.1 kX9_good ml_X9_222 (c_X9_good l G ad _ d_ad1 dw ((16 * u2) - u3) u4 e4) (CutX.take dO_f CutX.none) _ (gx_h dO_o) rfl ⟨rfl, rfl⟩ ⟨Nat.le_of_ble_eq_true rfl, Nat.le_of_ble_eq_true rfl⟩ rfl ⟨Nat.zero_le _, Nat.zero_le _⟩ rfl (Nat.le_of_ble_eq_true rfl) dX9_waste_31 (fun H locs hw => ?_)
    exact fin_i C hw (Option.some.inj hf) (fun o => o.1) (fun o => (dO G ad o.2 dw ++ [])) rfl rfl dX9_waste_34
  · replace hf := ifp hf hc
    refine r_aload0 C hl 0 rfl dX9_waste_12 ?_
    refine lv_iconst (v := 1) C.1 C.2.1 dX9_waste_13 (by decide) ?_
    obtain ⟨u5, e5, hf⟩ := bx hf
    refine r_callVi (ws' := (dO G ad u5.2 dw ++ [])) (As := [.int 1]) (rest := []) C hw hl.1 kX9_refused ml_X9_210 (c_X9_refused l G ad _ d_ad1 dw 1 u5 e5) (CutX.take dO_f CutX.none) _ (gx_h dO_o) rfl ⟨rfl, rfl⟩ ⟨Nat.le_of_ble_eq_true rfl, Nat.le_of_ble_eq_true rfl⟩ rfl ⟨Nat.zero_le _, Nat.zero_le _⟩ rfl (Nat.le_of_ble_eq_true rfl) dX9_waste_14 (fun H locs hw => ?_)
    exact fin_i C hw (Option.some.inj hf) (fun o => o.1) (fun o => (dO G ad o.2 dw ++ [])) rfl rfl dX9_waste_17
set_option maxHeartbeats 4000000 in
set_option maxRecDepth 100000 in
theorem c_X9_about (l : Launch) (G : GG) (ad : Nat → Nat) (sz : Nat) (d_ad : Pic) (dw : Int64) (x1 : Int32) (out : Int32 × Pic) (hf : f_X9_about d_ad x1 = some out) : Met l yX9_about (.code yX9_about cX9_about 2 (some .int) :: BT) ({ frames := 2, cells := 0, slots := 0, locals := 44 }) (va_Pc [.ref (ad 99), .int x1] (PreW G sz (dO G ad d_ad dw ++ []))) (Ans G out.1 (va_A (dO G ad d_ad dw ++ []) sz) (dO G ad out.2 dw ++ [])) 0 0 (va_A (dO G ad d_ad dw ++ []) sz) := by
  refine Met.into (by decide) (Nat.le_of_ble_eq_true rfl) ?_
  intro p e s m below meth c C hsz ls hl hw
  have hl : lv_has ls 2 [(0, .ref (ad 99)), (1, .int x1)] := hl
  clear hsz
  generalize va_A (dO G ad d_ad dw ++ []) sz = A at hw ⊢
  unfold f_X9_about at hf
  refine r_aload0 C hl 0 rfl dX9_about_0 ?_
  refine lv_iconst (v := 0) C.1 C.2.1 dX9_about_1 (by decide) ?_
  obtain ⟨d_ad1, e1, hf⟩ := bx hf
  refine r_put C hw _ (gx_h dO_o) 0 fp_X9_75 rfl rfl (Nat.le_of_ble_eq_true rfl) (dO G ad d_ad1 dw ++ []) (sx_h dO_o (dO_p0 e1)) dX9_about_2 (fun H locs hw => ?_)
  refine r_aload0 C hl 0 rfl dX9_about_5 ?_
  refine r_get C hw _ (gx_h dO_o) 19 fl_X9_225 rfl dX9_about_6 ?_
  refine lv_if_ne (tgt := 18) C.1 C.2.1 dX9_about_9 (by decide) (fun hc => ?_) (fun hc => ?_)
  · replace hf := ifn hf hc
    refine r_iload0 C hl 1 rfl dX9_about_18 ?_
    rcases Decidable.em (x1 = 0) with hc | h0_
    · replace hf := ifp hf hc
      refine lv_tableIn (tgt := 76) C.1 C.2.1 dX9_about_19 (by rw [hc]; decide) (by rw [hc]; decide) (by rw [hc]; rfl) (by decide) ?_
      refine r_aload0 C hl 0 rfl dX9_about_76 ?_
      refine r_aload0 C hl 0 rfl dX9_about_77 ?_
      refine r_get C hw _ (gx_h dO_o) 20 fl_X9_35 rfl dX9_about_78 ?_
      refine lv_iconst (v := 0) C.1 C.2.1 dX9_about_81 (by decide) ?_
      obtain ⟨v19_, e19, hf⟩ := bx hf
      refine r_iald C hw _ (gx_h dO_g20) e19 dX9_about_82 ?_
      obtain ⟨u20, e20, hf⟩ := bx hf
      refine r_callVi (ws' := (dO G ad u20.2 dw ++ [])) (As := [.int v19_]) (rest := []) C hw hl.1 kX9_good ml_X9_222 (c_X9_good l G ad _ d_ad1 dw v19_ u20 e20) (CutX.take dO_f CutX.none) _ (gx_h dO_o) rfl ⟨rfl, rfl⟩ ⟨Nat.le_of_ble_eq_true rfl, Nat.le_of_ble_eq_true rfl⟩ rfl ⟨Nat.zero_le _, Nat.zero_le _⟩ rfl (Nat.le_of_ble_eq_true rfl) dX9_about_83 (fun H locs hw => ?_)
      exact fin_i C hw (Option.some.inj hf) (fun o => o.1) (fun o => (dO G ad o.2 dw ++ [])) rfl rfl dX9_about_86
    replace hf := ifn hf h0_
    rcases Decidable.em (x1 = 1) with hc | h1_
    · replace hf := ifp hf hc
      refine lv_tableIn (tgt := 87) C.1 C.2.1 dX9_about_19 (by rw [hc]; decide) (by rw [hc]; decide) (by rw [hc]; rfl) (by decide) ?_
      refine r_aload0 C hl 0 rfl dX9_about_87 ?_
      refine r_aload0 C hl 0 rfl dX9_about_88 ?_
      refine r_get C hw _ (gx_h dO_o) 3 fl_X9_229 rfl dX9_about_89 ?_
      obtain ⟨u18, e18, hf⟩ := bx hf
      refine r_callVi (ws' := (dO G ad u18.2 dw ++ [])) (As := [.int (gS d_ad1 3)]) (rest := []) C hw hl.1 kX9_good ml_X9_222 (c_X9_good l G ad _ d_ad1 dw (gS d_ad1 3) u18 e18) (CutX.take dO_f CutX.none) _ (gx_h dO_o) rfl ⟨rfl, rfl⟩ ⟨Nat.le_of_ble_eq_true rfl, Nat.le_of_ble_eq_true rfl⟩ rfl ⟨Nat.zero_le _, Nat.zero_le _⟩ rfl (Nat.le_of_ble_eq_true rfl) dX9_about_92 (fun H locs hw => ?_)
      exact fin_i C hw (Option.some.inj hf) (fun o => o.1) (fun o => (dO G ad o.2 dw ++ [])) rfl rfl dX9_about_95
    replace hf := ifn hf h1_
    rcases Decidable.em (x1 = 2) with hc | h2_
    · replace hf := ifp hf hc
      refine lv_tableIn (tgt := 96) C.1 C.2.1 dX9_about_19 (by rw [hc]; decide) (by rw [hc]; decide) (by rw [hc]; rfl) (by decide) ?_
      refine r_aload0 C hl 0 rfl dX9_about_96 ?_
      refine r_aload0 C hl 0 rfl dX9_about_97 ?_
      refine r_get C hw _ (gx_h dO_o) 4 fl_X9_231 rfl dX9_about_98 ?_
      obtain ⟨u17, e17, hf⟩ := bx hf
      refine r_callVi (ws' := (dO G ad u17.2 dw ++ [])) (As := [.int (gS d_ad1 4)]) (rest := []) C hw hl.1 kX9_good ml_X9_222 (c_X9_good l G ad _ d_ad1 dw (gS d_ad1 4) u17 e17) (CutX.take dO_f CutX.none) _ (gx_h dO_o) rfl ⟨rfl, rfl⟩ ⟨Nat.le_of_ble_eq_true rfl, Nat.le_of_ble_eq_true rfl⟩ rfl ⟨Nat.zero_le _, Nat.zero_le _⟩ rfl (Nat.le_of_ble_eq_true rfl) dX9_about_101 (fun H locs hw => ?_)
      exact fin_i C hw (Option.some.inj hf) (fun o => o.1) (fun o => (dO G ad o.2 dw ++ [])) rfl rfl dX9_about_104
    replace hf := ifn hf h2_
    rcases Decidable.em (x1 = 3) with hc | h3_
    · replace hf := ifp hf hc
      refine lv_tableIn (tgt := 105) C.1 C.2.1 dX9_about_19 (by rw [hc]; decide) (by rw [hc]; decide) (by rw [hc]; rfl) (by decide) ?_
      refine r_aload0 C hl 0 rfl dX9_about_105 ?_
      refine r_aload0 C hl 0 rfl dX9_about_106 ?_
      refine r_get C hw _ (gx_h dO_o) 5 fl_X9_219 rfl dX9_about_107 ?_
      obtain ⟨u16, e16, hf⟩ := bx hf
      refine r_callVi (ws' := (dO G ad u16.2 dw ++ [])) (As := [.int (gS d_ad1 5)]) (rest := []) C hw hl.1 kX9_good ml_X9_222 (c_X9_good l G ad _ d_ad1 dw (gS d_ad1 5) u16 e16) (CutX.take dO_f CutX.none) _ (gx_h dO_o) rfl ⟨rfl, rfl⟩ ⟨Nat.le_of_ble_eq_true rfl, Nat.le_of_ble_eq_true rfl⟩ rfl ⟨Nat.zero_le _, Nat.zero_le _⟩ rfl (Nat.le_of_ble_eq_true rfl) dX9_about_110 (fun H locs hw => ?_)
      exact fin_i C hw (Option.some.inj hf) (fun o => o.1) (fun o => (dO G ad o.2 dw ++ [])) rfl rfl dX9_about_113
    replace hf := ifn hf h3_
    rcases Decidable.em (x1 = 4) with hc | h4_
    · replace hf := ifp hf hc
      refine lv_tableIn (tgt := 114) C.1 C.2.1 dX9_about_19 (by rw [hc]; decide) (by rw [hc]; decide) (by rw [hc]; rfl) (by decide) ?_
      refine r_aload0 C hl 0 rfl dX9_about_114 ?_
      refine r_aload0 C hl 0 rfl dX9_about_115 ?_
      refine r_get C hw _ (gx_h dO_o) 6 fl_X9_233 rfl dX9_about_116 ?_
      obtain ⟨u15, e15, hf⟩ := bx hf
      refine r_callVi (ws' := (dO G ad u15.2 dw ++ [])) (As := [.int (gS d_ad1 6)]) (rest := []) C hw hl.1 kX9_good ml_X9_222 (c_X9_good l G ad _ d_ad1 dw (gS d_ad1 6) u15 e15) (CutX.take dO_f CutX.none) _ (gx_h dO_o) rfl ⟨rfl, rfl⟩ ⟨Nat.le_of_ble_eq_true rfl, Nat.le_of_ble_eq_true rfl⟩ rfl ⟨Nat.zero_le _, Nat.zero_le _⟩ rfl (Nat.le_of_ble_eq_true rfl) dX9_about_119 (fun H locs hw => ?_)
      exact fin_i C hw (Option.some.inj hf) (fun o => o.1) (fun o => (dO G ad o.2 dw ++ [])) rfl rfl dX9_about_122
    replace hf := ifn hf h4_
    rcases Decidable.em (x1 = 5) with hc | h5_
    · replace hf := ifp hf hc
      refine lv_tableIn (tgt := 123) C.1 C.2.1 dX9_about_19 (by rw [hc]; decide) (by rw [hc]; decide) (by rw [hc]; rfl) (by decide) ?_
      refine r_aload0 C hl 0 rfl dX9_about_123 ?_
      refine r_aload0 C hl 0 rfl dX9_about_124 ?_
      obtain ⟨u13, e13, hf⟩ := bx hf
      refine r_callVi (ws' := (dO G ad d_ad1 dw ++ [])) (As := []) (rest := [.ref (ad 99)]) C hw hl.1 kX9_framesNow ml_X9_356 (c_X9_framesNow l G ad _ d_ad1 dw u13 e13) (CutX.take dO_f CutX.none) _ (gx_h dO_o) rfl ⟨rfl, rfl⟩ ⟨Nat.le_of_ble_eq_true rfl, Nat.le_of_ble_eq_true rfl⟩ rfl ⟨Nat.zero_le _, Nat.zero_le _⟩ rfl (Nat.le_of_ble_eq_true rfl) dX9_about_125 (fun H locs hw => ?_)
      obtain ⟨u14, e14, hf⟩ := bx hf
      refine r_callVi (ws' := (dO G ad u14.2 dw ++ [])) (As := [.int u13]) (rest := []) C hw hl.1 kX9_good ml_X9_222 (c_X9_good l G ad _ d_ad1 dw u13 u14 e14) (CutX.take dO_f CutX.none) _ (gx_h dO_o) rfl ⟨rfl, rfl⟩ ⟨Nat.le_of_ble_eq_true rfl, Nat.le_of_ble_eq_true rfl⟩ rfl ⟨Nat.zero_le _, Nat.zero_le _⟩ rfl (Nat.le_of_ble_eq_true rfl) dX9_about_128 (fun H locs hw => ?_)
      exact fin_i C hw (Option.some.inj hf) (fun o => o.1) (fun o => (dO G ad o.2 dw ++ [])) rfl rfl dX9_about_131
    replace hf := ifn hf h5_
    rcases Decidable.em (x1 = 6) with hc | h6_
    · replace hf := ifp hf hc
      refine lv_tableIn (tgt := 132) C.1 C.2.1 dX9_about_19 (by rw [hc]; decide) (by rw [hc]; decide) (by rw [hc]; rfl) (by decide) ?_
      refine r_aload0 C hl 0 rfl dX9_about_132 ?_
      refine r_aload0 C hl 0 rfl dX9_about_133 ?_
      obtain ⟨u11, e11, hf⟩ := bx hf
      refine r_callVi (ws' := (dO G ad d_ad1 dw ++ [])) (As := []) (rest := [.ref (ad 99)]) C hw hl.1 kX9_zonesNow ml_X9_380 (c_X9_zonesNow l G ad _ d_ad1 dw u11 e11) (CutX.take dO_f CutX.none) _ (gx_h dO_o) rfl ⟨rfl, rfl⟩ ⟨Nat.le_of_ble_eq_true rfl, Nat.le_of_ble_eq_true rfl⟩ rfl ⟨Nat.zero_le _, Nat.zero_le _⟩ rfl (Nat.le_of_ble_eq_true rfl) dX9_about_134 (fun H locs hw => ?_)
      obtain ⟨u12, e12, hf⟩ := bx hf
      refine r_callVi (ws' := (dO G ad u12.2 dw ++ [])) (As := [.int u11]) (rest := []) C hw hl.1 kX9_good ml_X9_222 (c_X9_good l G ad _ d_ad1 dw u11 u12 e12) (CutX.take dO_f CutX.none) _ (gx_h dO_o) rfl ⟨rfl, rfl⟩ ⟨Nat.le_of_ble_eq_true rfl, Nat.le_of_ble_eq_true rfl⟩ rfl ⟨Nat.zero_le _, Nat.zero_le _⟩ rfl (Nat.le_of_ble_eq_true rfl) dX9_about_137 (fun H locs hw => ?_)
      exact fin_i C hw (Option.some.inj hf) (fun o => o.1) (fun o => (dO G ad o.2 dw ++ [])) rfl rfl dX9_about_140
    replace hf := ifn hf h6_
    rcases Decidable.em (x1 = 7) with hc | h7_
    · replace hf := ifp hf hc
      refine lv_tableIn (tgt := 141) C.1 C.2.1 dX9_about_19 (by rw [hc]; decide) (by rw [hc]; decide) (by rw [hc]; rfl) (by decide) ?_
      refine r_aload0 C hl 0 rfl dX9_about_141 ?_
      refine r_aload0 C hl 0 rfl dX9_about_142 ?_
      refine r_get C hw _ (gx_h dO_o) 20 fl_X9_35 rfl dX9_about_143 ?_
      refine lv_sipush (v := 315) C.1 C.2.1 dX9_about_146 (by decide) ?_
      obtain ⟨v9_, e9, hf⟩ := bx hf
      refine r_iald C hw _ (gx_h dO_g20) e9 dX9_about_149 ?_
      obtain ⟨u10, e10, hf⟩ := bx hf
      refine r_callVi (ws' := (dO G ad u10.2 dw ++ [])) (As := [.int v9_]) (rest := []) C hw hl.1 kX9_good ml_X9_222 (c_X9_good l G ad _ d_ad1 dw v9_ u10 e10) (CutX.take dO_f CutX.none) _ (gx_h dO_o) rfl ⟨rfl, rfl⟩ ⟨Nat.le_of_ble_eq_true rfl, Nat.le_of_ble_eq_true rfl⟩ rfl ⟨Nat.zero_le _, Nat.zero_le _⟩ rfl (Nat.le_of_ble_eq_true rfl) dX9_about_150 (fun H locs hw => ?_)
      exact fin_i C hw (Option.some.inj hf) (fun o => o.1) (fun o => (dO G ad o.2 dw ++ [])) rfl rfl dX9_about_153
    replace hf := ifn hf h7_
    rcases Decidable.em (x1 = 8) with hc | h8_
    · replace hf := ifp hf hc
      refine lv_tableIn (tgt := 154) C.1 C.2.1 dX9_about_19 (by rw [hc]; decide) (by rw [hc]; decide) (by rw [hc]; rfl) (by decide) ?_
      refine r_aload0 C hl 0 rfl dX9_about_154 ?_
      refine r_aload0 C hl 0 rfl dX9_about_155 ?_
      refine lv_iconst (v := 1) C.1 C.2.1 dX9_about_156 (by decide) ?_
      obtain ⟨u7, e7, hf⟩ := bx hf
      refine r_callVi (ws' := (dO G ad d_ad1 dw ++ [])) (As := [.int 1]) (rest := [.ref (ad 99)]) C hw hl.1 kX9_placed ml_X9_383 (c_X9_placed l G ad _ d_ad1 dw 1 u7 e7) (CutX.take dO_f CutX.none) _ (gx_h dO_o) rfl ⟨rfl, rfl⟩ ⟨Nat.le_of_ble_eq_true rfl, Nat.le_of_ble_eq_true rfl⟩ rfl ⟨Nat.zero_le _, Nat.zero_le _⟩ rfl (Nat.le_of_ble_eq_true rfl) dX9_about_157 (fun H locs hw => ?_)
      obtain ⟨u8, e8, hf⟩ := bx hf
      refine r_callVi (ws' := (dO G ad u8.2 dw ++ [])) (As := [.int u7]) (rest := []) C hw hl.1 kX9_good ml_X9_222 (c_X9_good l G ad _ d_ad1 dw u7 u8 e8) (CutX.take dO_f CutX.none) _ (gx_h dO_o) rfl ⟨rfl, rfl⟩ ⟨Nat.le_of_ble_eq_true rfl, Nat.le_of_ble_eq_true rfl⟩ rfl ⟨Nat.zero_le _, Nat.zero_le _⟩ rfl (Nat.le_of_ble_eq_true rfl) dX9_about_160 (fun H locs hw => ?_)
      exact fin_i C hw (Option.some.inj hf) (fun o => o.1) (fun o => (dO G ad o.2 dw ++ [])) rfl rfl dX9_about_163
    replace hf := ifn hf h8_
    rcases Decidable.em (x1 = 9) with hc | h9_
    · replace hf := ifp hf hc
      refine lv_tableIn (tgt := 164) C.1 C.2.1 dX9_about_19 (by rw [hc]; decide) (by rw [hc]; decide) (by rw [hc]; rfl) (by decide) ?_
      refine r_aload0 C hl 0 rfl dX9_about_164 ?_
      refine r_aload0 C hl 0 rfl dX9_about_165 ?_
      refine lv_iconst (v := 3) C.1 C.2.1 dX9_about_166 (by decide) ?_
      obtain ⟨u5, e5, hf⟩ := bx hf
      refine r_callVi (ws' := (dO G ad d_ad1 dw ++ [])) (As := [.int 3]) (rest := [.ref (ad 99)]) C hw hl.1 kX9_placed ml_X9_383 (c_X9_placed l G ad _ d_ad1 dw 3 u5 e5) (CutX.take dO_f CutX.none) _ (gx_h dO_o) rfl ⟨rfl, rfl⟩ ⟨Nat.le_of_ble_eq_true rfl, Nat.le_of_ble_eq_true rfl⟩ rfl ⟨Nat.zero_le _, Nat.zero_le _⟩ rfl (Nat.le_of_ble_eq_true rfl) dX9_about_167 (fun H locs hw => ?_)
      obtain ⟨u6, e6, hf⟩ := bx hf
      refine r_callVi (ws' := (dO G ad u6.2 dw ++ [])) (As := [.int u5]) (rest := []) C hw hl.1 kX9_good ml_X9_222 (c_X9_good l G ad _ d_ad1 dw u5 u6 e6) (CutX.take dO_f CutX.none) _ (gx_h dO_o) rfl ⟨rfl, rfl⟩ ⟨Nat.le_of_ble_eq_true rfl, Nat.le_of_ble_eq_true rfl⟩ rfl ⟨Nat.zero_le _, Nat.zero_le _⟩ rfl (Nat.le_of_ble_eq_true rfl) dX9_about_170 (fun H locs hw => ?_)
      exact fin_i C hw (Option.some.inj hf) (fun o => o.1) (fun o => (dO G ad o.2 dw ++ [])) rfl rfl dX9_about_173
    replace hf := ifn hf h9_
    rcases Decidable.em (x1 = 10) with hc | h10_
    · replace hf := ifp hf hc
      refine lv_tableIn (tgt := 174) C.1 C.2.1 dX9_about_19 (by rw [hc]; decide) (by rw [hc]; decide) (by rw [hc]; rfl) (by decide) ?_
      refine r_aload0 C hl 0 rfl dX9_about_174 ?_
      refine r_aload0 C hl 0 rfl dX9_about_175 ?_
      obtain ⟨u3, e3, hf⟩ := bx hf
      refine r_callVi (ws' := (dO G ad d_ad1 dw ++ [])) (As := []) (rest := [.ref (ad 99)]) C hw hl.1 kX9_sizesTogether ml_X9_377 (c_X9_sizesTogether l G ad _ d_ad1 dw u3 e3) (CutX.take dO_f CutX.none) _ (gx_h dO_o) rfl ⟨rfl, rfl⟩ ⟨Nat.le_of_ble_eq_true rfl, Nat.le_of_ble_eq_true rfl⟩ rfl ⟨Nat.zero_le _, Nat.zero_le _⟩ rfl (Nat.le_of_ble_eq_true rfl) dX9_about_176 (fun H locs hw => ?_)
      obtain ⟨u4, e4, hf⟩ := bx hf
      refine r_callVi (ws' := (dO G ad u4.2 dw ++ [])) (As := [.int u3]) (rest := []) C hw hl.1 kX9_good ml_X9_222 (c_X9_good l G ad _ d_ad1 dw u3 u4 e4) (CutX.take dO_f CutX.none) _ (gx_h dO_o) rfl ⟨rfl, rfl⟩ ⟨Nat.le_of_ble_eq_true rfl, Nat.le_of_ble_eq_true rfl⟩ rfl ⟨Nat.zero_le _, Nat.zero_le _⟩ rfl (Nat.le_of_ble_eq_true rfl) dX9_about_179 (fun H locs hw => ?_)
      exact fin_i C hw (Option.some.inj hf) (fun o => o.1) (fun o => (dO G ad o.2 dw ++ [])) rfl rfl dX9_about_182
    replace hf := ifn hf h10_
    refine lv_tableOut (tgt := 183) C.1 C.2.1 dX9_about_19 (sw_out11 h0_ h1_ h2_ h3_ h4_ h5_ h6_ h7_ h8_ h9_ h10_) (by decide) ?_
    refine r_aload0 C hl 0 rfl dX9_about_183 ?_
    refine lv_iconst (v := 1) C.1 C.2.1 dX9_about_184 (by decide) ?_
    obtain ⟨u2, e2, hf⟩ := bx hf
    refine r_callVi (ws' := (dO G ad u2.2 dw ++ [])) (As := [.int 1]) (rest := []) C hw hl.1 kX9_refused ml_X9_210 (c_X9_refused l G ad _ d_ad1 dw 1 u2 e2) (CutX.take dO_f CutX.none) _ (gx_h dO_o) rfl ⟨rfl, rfl⟩ ⟨Nat.le_of_ble_eq_true rfl, Nat.le_of_ble_eq_true rfl⟩ rfl ⟨Nat.zero_le _, Nat.zero_le _⟩ rfl (Nat.le_of_ble_eq_true rfl) dX9_about_185 (fun H locs hw => ?_)
    exact fin_i C hw (Option.some.inj hf) (fun o => o.1) (fun o => (dO G ad o.2 dw ++ [])) rfl rfl dX9_about_188
  · replace hf := ifp hf hc
    refine r_aload0 C hl 0 rfl dX9_about_12 ?_
    refine lv_iconst (v := 1) C.1 C.2.1 dX9_about_13 (by decide) ?_
    obtain ⟨u21, e21, hf⟩ := bx hf
    refine r_callVi (ws' := (dO G ad u21.2 dw ++ [])) (As := [.int 1]) (rest := []) C hw hl.1 kX9_refused ml_X9_210 (c_X9_refused l G ad _ d_ad1 dw 1 u21 e21) (CutX.take dO_f CutX.none) _ (gx_h dO_o) rfl ⟨rfl, rfl⟩ ⟨Nat.le_of_ble_eq_true rfl, Nat.le_of_ble_eq_true rfl⟩ rfl ⟨Nat.zero_le _, Nat.zero_le _⟩ rfl (Nat.le_of_ble_eq_true rfl) dX9_about_14 (fun H locs hw => ?_)
    exact fin_i C hw (Option.some.inj hf) (fun o => o.1) (fun o => (dO G ad o.2 dw ++ [])) rfl rfl dX9_about_17
set_option maxHeartbeats 4000000 in
set_option maxRecDepth 100000 in
theorem c_X9_moves (l : Launch) (G : GG) (ad : Nat → Nat) (sz : Nat) (d_ad : Pic) (dw : Int64) (x1 : Int32) (out : Pic) (hf : f_X9_moves d_ad x1 = some out) : Met l yX9_moves (.code yX9_moves cX9_moves 6 none :: BT) ({ frames := 4, cells := 0, slots := 0, locals := 89 }) (va_Pc [.ref (ad 99), .int x1] (PreW G sz (dO G ad d_ad dw ++ []))) (Don G (va_A (dO G ad d_ad dw ++ []) sz) (dO G ad out dw ++ [])) 0 0 (va_A (dO G ad d_ad dw ++ []) sz) := by
  refine Met.into (by decide) (Nat.le_of_ble_eq_true rfl) ?_
  intro p e s m below meth c C hsz ls hl hw
  have hl : lv_has ls 6 [(0, .ref (ad 99)), (1, .int x1)] := hl
  clear hsz
  generalize va_A (dO G ad d_ad dw ++ []) sz = A at hw ⊢
  have hB_17 : ∀ (k17 : Pic → Int32 → Int32 → Int32 → Option (Pic)) (hk17 : ∀ (d_ad : Pic) (v2 : Int32) (v3 : Int32) (v4 : Int32), k17 d_ad v2 v3 v4 = some out → ∀ (H : Heap) (locs : List Loc), Wd G A s H locs (dO G ad d_ad dw ++ []) → ∀ ls : Array Slot, lv_has ls 6 [(0, .ref (ad 99)), (2, .int v2), (3, .int v3), (4, .int v4)] → W p l e ({ frames := 4, cells := 0, slots := 0, locals := 89 }) s m [.ref (ad 99), .int x1].toArray below meth c H locs 0 0 (MQ below (Don G A (dO G ad out dw ++ [])) [.ref (ad 99), .int x1].toArray s 0 0 A) (F0 m 17 ls [])), ∀ (d_ad : Pic) (v2 : Int32) (v3 : Int32) (v4 : Int32), b_X9_moves_17 x1 k17 d_ad v2 v3 v4 = some out → ∀ (H : Heap) (locs : List Loc), Wd G A s H locs (dO G ad d_ad dw ++ []) → ∀ ls : Array Slot, lv_has ls 6 [(0, .ref (ad 99)), (2, .int v2), (3, .int v3), (4, .int v4)] → W p l e ({ frames := 4, cells := 0, slots := 0, locals := 89 }) s m [.ref (ad 99), .int x1].toArray below meth c H locs 0 0 (MQ below (Don G A (dO G ad out dw ++ [])) [.ref (ad 99), .int x1].toArray s 0 0 A) (F0 m 17 ls []) := by
    intro k17 hk17 d_ad v2 v3 v4 hf H locs hw ls hl
    unfold b_X9_moves_17 at hf
    refine r_aload0 C hl 0 rfl dX9_moves_17 ?_
    refine r_get C hw _ (gx_h dO_o) 20 fl_X9_35 rfl dX9_moves_18 ?_
    refine r_iload0 C hl 1 rfl dX9_moves_21 ?_
    refine r_iload C hl 3 rfl dX9_moves_22 ?_
    obtain ⟨u3, e3, hf⟩ := bx hf
    refine r_callSi (ws' := (dO G ad d_ad dw ++ [])) (As := [.int v2, .int v4]) (rest := [.ref (ad 20)]) C hw hl.1 kX9_slotAt ml_X9_304 (c_X9_slotAt l G _ v2 v4 u3 e3) CutX.none ⟨rfl, rfl⟩ ⟨Nat.le_of_ble_eq_true rfl, Nat.le_of_ble_eq_true rfl⟩ rfl ⟨Nat.zero_le _, Nat.zero_le _⟩ rfl (Nat.le_of_ble_eq_true rfl) dX9_moves_24 (fun H locs hw => ?_)
    obtain ⟨v4_, e4, hf⟩ := bx hf
    refine r_iald C hw _ (gx_h dO_g20) e4 dX9_moves_27 ?_
    refine lv_if_ne (tgt := 37) C.1 C.2.1 dX9_moves_28 (by decide) (fun hc => ?_) (fun hc => ?_)
    · replace hf := ifn hf hc
      refine r_aload0 C hl 0 rfl dX9_moves_37 ?_
      refine r_get C hw _ (gx_h dO_o) 20 fl_X9_35 rfl dX9_moves_38 ?_
      refine r_iload0 C hl 1 rfl dX9_moves_41 ?_
      refine r_iload C hl 3 rfl dX9_moves_42 ?_
      obtain ⟨u5, e5, hf⟩ := bx hf
      refine r_callSi (ws' := (dO G ad d_ad dw ++ [])) (As := [.int v2, .int v4]) (rest := [.ref (ad 20)]) C hw hl.1 kX9_slotAt ml_X9_304 (c_X9_slotAt l G _ v2 v4 u5 e5) CutX.none ⟨rfl, rfl⟩ ⟨Nat.le_of_ble_eq_true rfl, Nat.le_of_ble_eq_true rfl⟩ rfl ⟨Nat.zero_le _, Nat.zero_le _⟩ rfl (Nat.le_of_ble_eq_true rfl) dX9_moves_44 (fun H locs hw => ?_)
      obtain ⟨v6_, e6, hf⟩ := bx hf
      refine r_iald C hw _ (gx_h dO_g20) e6 dX9_moves_47 ?_
      refine lv_iconst (v := 1) C.1 C.2.1 dX9_moves_48 (by decide) ?_
      refine lv_isub C.1 C.2.1 dX9_moves_49 ?_
      refine r_istore C hl [(5, .int (v6_ - 1)), (0, .ref (ad 99)), (2, .int v2), (3, .int v3), (4, .int v4)] (by decide) rfl dX9_moves_50 (fun ls hl => ?_)
      refine r_aload0 C hl 1 rfl dX9_moves_52 ?_
      refine r_iload C hl 0 rfl dX9_moves_53 ?_
      obtain ⟨u7, e7, hf⟩ := bx hf
      refine r_callVv (ws' := (dO G ad u7 dw ++ [])) (As := [.int (v6_ - 1)]) (rest := []) C hw hl.1 kX9_leaves ml_X9_328 (c_X9_leaves l G ad _ d_ad dw (v6_ - 1) u7 e7) (CutX.take dO_f CutX.none) _ (gx_h dO_o) rfl ⟨rfl, rfl⟩ ⟨Nat.le_of_ble_eq_true rfl, Nat.le_of_ble_eq_true rfl⟩ rfl ⟨Nat.zero_le _, Nat.zero_le _⟩ rfl (Nat.le_of_ble_eq_true rfl) dX9_moves_55 (fun H locs hw => ?_)
      refine r_aload0 C hl 1 rfl dX9_moves_58 ?_
      refine r_iload C hl 0 rfl dX9_moves_59 ?_
      refine r_iload0 C hl 3 rfl dX9_moves_61 ?_
      obtain ⟨u8, e8, hf⟩ := bx hf
      refine r_callVv (ws' := (dO G ad u8 dw ++ [])) (As := [.int (v6_ - 1), .int v3]) (rest := []) C hw hl.1 kX9_comesInto ml_X9_349 (c_X9_comesInto l G ad _ u7 dw (v6_ - 1) v3 u8 e8) (CutX.take dO_f CutX.none) _ (gx_h dO_o) rfl ⟨rfl, rfl⟩ ⟨Nat.le_of_ble_eq_true rfl, Nat.le_of_ble_eq_true rfl⟩ rfl ⟨Nat.zero_le _, Nat.zero_le _⟩ rfl (Nat.le_of_ble_eq_true rfl) dX9_moves_62 (fun H locs hw => ?_)
      refine r_aload0 C hl 1 rfl dX9_moves_65 ?_
      refine r_get C hw _ (gx_h dO_o) 20 fl_X9_35 rfl dX9_moves_66 ?_
      refine lv_iconst (v := 4) C.1 C.2.1 dX9_moves_69 (by decide) ?_
      refine lv_dup2_11 C.1 C.2.1 dX9_moves_70 rfl rfl ?_
      obtain ⟨v9_, e9, hf⟩ := bx hf
      refine r_iald C hw _ (gx_h dO_g20) e9 dX9_moves_71 ?_
      refine lv_iconst (v := 1) C.1 C.2.1 dX9_moves_72 (by decide) ?_
      refine lv_iadd C.1 C.2.1 dX9_moves_73 ?_
      obtain ⟨d_ad10, e10, hf⟩ := bx hf
      refine r_iast C hw _ (gx_h dO_g20) e10 (dO G ad d_ad10 dw ++ []) (fun h => (sx_h dO_g20 (dO_s20 h))) dX9_moves_74 (fun H locs hw => ?_)
      exact fin_v C hw (Option.some.inj hf) (fun o => (dO G ad o dw ++ [])) rfl dX9_moves_75
    · replace hf := ifp hf hc
      refine r_iinc C hl 3 (v4 + (-1)) [(4, .int (v4 + (-1))), (0, .ref (ad 99)), (2, .int v2), (3, .int v3)] rfl (iinc_e (by decide)) (by decide) rfl dX9_moves_31 (fun ls hl => ?_)
      refine lv_goto (tgt := 17) C.1 C.2.1 dX9_moves_34 (by decide) ?_
      exact hk17 d_ad v2 v3 (v4 + (-1)) hf _ _ hw _ (lv_sub hl [1, 2, 3, 0] rfl)
  have hL_17 : ∀ n : Nat, ∀ (d_ad : Pic) (v2 : Int32) (v3 : Int32) (v4 : Int32), L_X9_moves_17 x1  n d_ad v2 v3 v4 = some out → ∀ (H : Heap) (locs : List Loc), Wd G A s H locs (dO G ad d_ad dw ++ []) → ∀ ls : Array Slot, lv_has ls 6 [(0, .ref (ad 99)), (2, .int v2), (3, .int v3), (4, .int v4)] → W p l e ({ frames := 4, cells := 0, slots := 0, locals := 89 }) s m [.ref (ad 99), .int x1].toArray below meth c H locs 0 0 (MQ below (Don G A (dO G ad out dw ++ [])) [.ref (ad 99), .int x1].toArray s 0 0 A) (F0 m 17 ls []) := by
    intro  n
    induction n with
    | zero => intro d_ad v2 v3 v4 hf; cases hf
    | succ n ih => exact hB_17 _ ih
  unfold f_X9_moves at hf
  refine r_aload0 C hl 0 rfl dX9_moves_0 ?_
  refine r_iload0 C hl 1 rfl dX9_moves_1 ?_
  obtain ⟨u1, e1, hf⟩ := bx hf
  refine r_callVi (ws' := (dO G ad d_ad dw ++ [])) (As := [.int x1]) (rest := []) C hw hl.1 kX9_emptiestOf ml_X9_386 (c_X9_emptiestOf l G ad _ d_ad dw x1 u1 e1) (CutX.take dO_f CutX.none) _ (gx_h dO_o) rfl ⟨rfl, rfl⟩ ⟨Nat.le_of_ble_eq_true rfl, Nat.le_of_ble_eq_true rfl⟩ rfl ⟨Nat.zero_le _, Nat.zero_le _⟩ rfl (Nat.le_of_ble_eq_true rfl) dX9_moves_2 (fun H locs hw => ?_)
  refine r_istore0 C hl [(2, .int u1), (0, .ref (ad 99)), (1, .int x1)] (by decide) rfl dX9_moves_5 (fun ls hl => ?_)
  refine r_aload0 C hl 1 rfl dX9_moves_6 ?_
  refine r_iload0 C hl 2 rfl dX9_moves_7 ?_
  refine r_iload0 C hl 0 rfl dX9_moves_8 ?_
  obtain ⟨u2, e2, hf⟩ := bx hf
  refine r_callVi (ws' := (dO G ad d_ad dw ++ [])) (As := [.int x1, .int u1]) (rest := []) C hw hl.1 kX9_fullestOf ml_X9_346 (c_X9_fullestOf l G ad _ d_ad dw x1 u1 u2 e2) (CutX.take dO_f CutX.none) _ (gx_h dO_o) rfl ⟨rfl, rfl⟩ ⟨Nat.le_of_ble_eq_true rfl, Nat.le_of_ble_eq_true rfl⟩ rfl ⟨Nat.zero_le _, Nat.zero_le _⟩ rfl (Nat.le_of_ble_eq_true rfl) dX9_moves_9 (fun H locs hw => ?_)
  refine r_istore0 C hl [(3, .int u2), (2, .int u1), (0, .ref (ad 99)), (1, .int x1)] (by decide) rfl dX9_moves_12 (fun ls hl => ?_)
  refine lv_bipush (v := 15) C.1 C.2.1 dX9_moves_13 (by decide) ?_
  refine r_istore C hl [(4, .int 15), (3, .int u2), (2, .int u1), (0, .ref (ad 99)), (1, .int x1)] (by decide) rfl dX9_moves_15 (fun ls hl => ?_)
  exact hL_17  FU d_ad u1 u2 15 hf _ _ hw _ (lv_sub hl [3, 2, 1, 0] rfl)
set_option maxHeartbeats 4000000 in
set_option maxRecDepth 100000 in
theorem c_X9_looseOf (l : Launch) (G : GG) (ad : Nat → Nat) (sz : Nat) (d_ad : Pic) (dw : Int64) (x1 : Int32) (out : Int32) (hf : f_X9_looseOf d_ad x1 = some out) : Met l yX9_looseOf (.code yX9_looseOf cX9_looseOf 4 (some .int) :: BT) ({ frames := 3, cells := 0, slots := 0, locals := 65 }) (va_Pc [.ref (ad 99), .int x1] (PreW G sz (dO G ad d_ad dw ++ []))) (Ans G out (va_A (dO G ad d_ad dw ++ []) sz) (dO G ad d_ad dw ++ [])) 0 0 (va_A (dO G ad d_ad dw ++ []) sz) := by
  refine Met.into (by decide) (Nat.le_of_ble_eq_true rfl) ?_
  intro p e s m below meth c C hsz ls hl hw
  have hl : lv_has ls 4 [(0, .ref (ad 99)), (1, .int x1)] := hl
  clear hsz
  generalize va_A (dO G ad d_ad dw ++ []) sz = A at hw ⊢
  have hB_32 : ∀ (k4 : Int32 → Int32 → Option (Int32)) (hk4 : ∀ (v2 : Int32) (v3 : Int32), k4 v2 v3 = some out → ∀ (H : Heap) (locs : List Loc), Wd G A s H locs (dO G ad d_ad dw ++ []) → ∀ ls : Array Slot, lv_has ls 4 [(0, .ref (ad 99)), (1, .int x1), (2, .int v2), (3, .int v3)] → W p l e ({ frames := 3, cells := 0, slots := 0, locals := 65 }) s m [.ref (ad 99), .int x1].toArray below meth c H locs 0 0 (MQ below (Ans G out A (dO G ad d_ad dw ++ [])) [.ref (ad 99), .int x1].toArray s 0 0 A) (F0 m 4 ls [])), ∀ (v3 : Int32) (t0 : Int32), b_X9_looseOf_32 d_ad x1 k4 v3 t0 = some out → ∀ (H : Heap) (locs : List Loc), Wd G A s H locs (dO G ad d_ad dw ++ []) → ∀ ls : Array Slot, lv_has ls 4 [(0, .ref (ad 99)), (1, .int x1), (3, .int v3)] → W p l e ({ frames := 3, cells := 0, slots := 0, locals := 65 }) s m [.ref (ad 99), .int x1].toArray below meth c H locs 0 0 (MQ below (Ans G out A (dO G ad d_ad dw ++ [])) [.ref (ad 99), .int x1].toArray s 0 0 A) (F0 m 32 ls [.int t0]) := by
    intro k4 hk4 v3 t0 hf H locs hw ls hl
    unfold b_X9_looseOf_32 at hf
    refine lv_iconst (v := 0) C.1 C.2.1 dX9_looseOf_32 (by decide) ?_
    refine lv_iadd C.1 C.2.1 dX9_looseOf_33 ?_
    refine r_istore0 C hl [(2, .int (t0 + 0)), (0, .ref (ad 99)), (1, .int x1), (3, .int v3)] (by decide) rfl dX9_looseOf_34 (fun ls hl => ?_)
    refine r_iinc C hl 3 (v3 + 1) [(3, .int (v3 + 1)), (2, .int (t0 + 0)), (0, .ref (ad 99)), (1, .int x1)] rfl (iinc_e (by decide)) (by decide) rfl dX9_looseOf_35 (fun ls hl => ?_)
    refine lv_goto (tgt := 4) C.1 C.2.1 dX9_looseOf_38 (by decide) ?_
    exact hk4 (t0 + 0) (v3 + 1) hf _ _ hw _ (lv_sub hl [2, 3, 1, 0] rfl)
  have hB_4 : ∀ (k4 : Int32 → Int32 → Option (Int32)) (hk4 : ∀ (v2 : Int32) (v3 : Int32), k4 v2 v3 = some out → ∀ (H : Heap) (locs : List Loc), Wd G A s H locs (dO G ad d_ad dw ++ []) → ∀ ls : Array Slot, lv_has ls 4 [(0, .ref (ad 99)), (1, .int x1), (2, .int v2), (3, .int v3)] → W p l e ({ frames := 3, cells := 0, slots := 0, locals := 65 }) s m [.ref (ad 99), .int x1].toArray below meth c H locs 0 0 (MQ below (Ans G out A (dO G ad d_ad dw ++ [])) [.ref (ad 99), .int x1].toArray s 0 0 A) (F0 m 4 ls [])), ∀ (v2 : Int32) (v3 : Int32), b_X9_looseOf_4 d_ad x1 k4 v2 v3 = some out → ∀ (H : Heap) (locs : List Loc), Wd G A s H locs (dO G ad d_ad dw ++ []) → ∀ ls : Array Slot, lv_has ls 4 [(0, .ref (ad 99)), (1, .int x1), (2, .int v2), (3, .int v3)] → W p l e ({ frames := 3, cells := 0, slots := 0, locals := 65 }) s m [.ref (ad 99), .int x1].toArray below meth c H locs 0 0 (MQ below (Ans G out A (dO G ad d_ad dw ++ [])) [.ref (ad 99), .int x1].toArray s 0 0 A) (F0 m 4 ls []) := by
    intro k4 hk4 v2 v3 hf H locs hw ls hl
    unfold b_X9_looseOf_4 at hf
    refine r_iload0 C hl 3 rfl dX9_looseOf_4 ?_
    refine lv_bipush (v := 24) C.1 C.2.1 dX9_looseOf_5 (by decide) ?_
    refine lv_icmp_ge (tgt := 41) C.1 C.2.1 dX9_looseOf_7 (by decide) (fun hc => ?_) (fun hc => ?_)
    · replace hf := ifp hf hc
      refine r_iload0 C hl 2 rfl dX9_looseOf_41 ?_
      exact fin_i C hw (Option.some.inj hf) (fun o => o) (fun o => (dO G ad d_ad dw ++ [])) rfl rfl dX9_looseOf_42
    · replace hf := ifn hf hc
      refine r_iload0 C hl 2 rfl dX9_looseOf_10 ?_
      refine r_aload0 C hl 0 rfl dX9_looseOf_11 ?_
      refine r_iload0 C hl 3 rfl dX9_looseOf_12 ?_
      obtain ⟨u1, e1, hf⟩ := bx hf
      refine r_callVi (ws' := (dO G ad d_ad dw ++ [])) (As := [.int v3]) (rest := [.int v2]) C hw hl.1 kX9_classOf ml_X9_310 (c_X9_classOf l G ad _ d_ad dw v3 u1 e1) (CutX.take dO_f CutX.none) _ (gx_h dO_o) rfl ⟨rfl, rfl⟩ ⟨Nat.le_of_ble_eq_true rfl, Nat.le_of_ble_eq_true rfl⟩ rfl ⟨Nat.zero_le _, Nat.zero_le _⟩ rfl (Nat.le_of_ble_eq_true rfl) dX9_looseOf_13 (fun H locs hw => ?_)
      refine r_iload0 C hl 1 rfl dX9_looseOf_16 ?_
      refine lv_icmp_ne (tgt := 32) C.1 C.2.1 dX9_looseOf_17 (by decide) (fun hc => ?_) (fun hc => ?_)
      · replace hf := ifn hf hc
        exact hB_32 k4 hk4 v3 v2 hf _ _ hw _ (lv_sub hl [0, 1, 3] rfl)
      · replace hf := ifp hf hc
        refine r_aload0 C hl 0 rfl dX9_looseOf_20 ?_
        refine r_iload0 C hl 3 rfl dX9_looseOf_21 ?_
        obtain ⟨u2, e2, hf⟩ := bx hf
        refine r_callVi (ws' := (dO G ad d_ad dw ++ [])) (As := [.int v3]) (rest := [.int v2]) C hw hl.1 kX9_isFull ml_X9_313 (c_X9_isFull l G ad _ d_ad dw v3 u2 e2) (CutX.take dO_f CutX.none) _ (gx_h dO_o) rfl ⟨rfl, rfl⟩ ⟨Nat.le_of_ble_eq_true rfl, Nat.le_of_ble_eq_true rfl⟩ rfl ⟨Nat.zero_le _, Nat.zero_le _⟩ rfl (Nat.le_of_ble_eq_true rfl) dX9_looseOf_22 (fun H locs hw => ?_)
        refine lv_if_ne (tgt := 32) C.1 C.2.1 dX9_looseOf_25 (by decide) (fun hc => ?_) (fun hc => ?_)
        · replace hf := ifn hf hc
          exact hB_32 k4 hk4 v3 v2 hf _ _ hw _ (lv_sub hl [0, 1, 3] rfl)
        · replace hf := ifp hf hc
          refine lv_iconst (v := 1) C.1 C.2.1 dX9_looseOf_28 (by decide) ?_
          refine lv_goto (tgt := 33) C.1 C.2.1 dX9_looseOf_29 (by decide) ?_
          refine lv_iadd C.1 C.2.1 dX9_looseOf_33 ?_
          refine r_istore0 C hl [(2, .int (v2 + 1)), (0, .ref (ad 99)), (1, .int x1), (3, .int v3)] (by decide) rfl dX9_looseOf_34 (fun ls hl => ?_)
          refine r_iinc C hl 3 (v3 + 1) [(3, .int (v3 + 1)), (2, .int (v2 + 1)), (0, .ref (ad 99)), (1, .int x1)] rfl (iinc_e (by decide)) (by decide) rfl dX9_looseOf_35 (fun ls hl => ?_)
          refine lv_goto (tgt := 4) C.1 C.2.1 dX9_looseOf_38 (by decide) ?_
          exact hk4 (v2 + 1) (v3 + 1) hf _ _ hw _ (lv_sub hl [2, 3, 1, 0] rfl)
  have hL_4 : ∀ n : Nat, ∀ (v2 : Int32) (v3 : Int32), L_X9_looseOf_4 d_ad x1  n v2 v3 = some out → ∀ (H : Heap) (locs : List Loc), Wd G A s H locs (dO G ad d_ad dw ++ []) → ∀ ls : Array Slot, lv_has ls 4 [(0, .ref (ad 99)), (1, .int x1), (2, .int v2), (3, .int v3)] → W p l e ({ frames := 3, cells := 0, slots := 0, locals := 65 }) s m [.ref (ad 99), .int x1].toArray below meth c H locs 0 0 (MQ below (Ans G out A (dO G ad d_ad dw ++ [])) [.ref (ad 99), .int x1].toArray s 0 0 A) (F0 m 4 ls []) := by
    intro  n
    induction n with
    | zero => intro v2 v3 hf; cases hf
    | succ n ih => exact hB_4 _ ih
  unfold f_X9_looseOf at hf
  refine lv_iconst (v := 0) C.1 C.2.1 dX9_looseOf_0 (by decide) ?_
  refine r_istore0 C hl [(2, .int 0), (0, .ref (ad 99)), (1, .int x1)] (by decide) rfl dX9_looseOf_1 (fun ls hl => ?_)
  refine lv_iconst (v := 0) C.1 C.2.1 dX9_looseOf_2 (by decide) ?_
  refine r_istore0 C hl [(3, .int 0), (2, .int 0), (0, .ref (ad 99)), (1, .int x1)] (by decide) rfl dX9_looseOf_3 (fun ls hl => ?_)
  exact hL_4  FU 0 0 hf _ _ hw _ (lv_sub hl [2, 3, 1, 0] rfl)
set_option maxHeartbeats 4000000 in
set_option maxRecDepth 100000 in
theorem c_X9_compacts (l : Launch) (G : GG) (ad : Nat → Nat) (sz : Nat) (d_ad : Pic) (dw : Int64)  (out : Int32 × Pic) (hf : f_X9_compacts d_ad = some out) : Met l yX9_compacts (.code yX9_compacts cX9_compacts 3 (some .int) :: BT) ({ frames := 5, cells := 0, slots := 0, locals := 114 }) (va_Pc [.ref (ad 99)] (PreW G sz (dO G ad d_ad dw ++ []))) (Ans G out.1 (va_A (dO G ad d_ad dw ++ []) sz) (dO G ad out.2 dw ++ [])) 0 0 (va_A (dO G ad d_ad dw ++ []) sz) := by
  refine Met.into (by decide) (Nat.le_of_ble_eq_true rfl) ?_
  intro p e s m below meth c C hsz ls hl hw
  have hl : lv_has ls 3 [(0, .ref (ad 99))] := hl
  clear hsz
  generalize va_A (dO G ad d_ad dw ++ []) sz = A at hw ⊢
  have hB_16 : ∀ (k10 : Pic → Int32 → Int32 → Option (Int32 × Pic)) (hk10 : ∀ (d_ad : Pic) (v1 : Int32) (v2 : Int32), k10 d_ad v1 v2 = some out → ∀ (H : Heap) (locs : List Loc), Wd G A s H locs (dO G ad d_ad dw ++ []) → ∀ ls : Array Slot, lv_has ls 3 [(0, .ref (ad 99)), (1, .int v1), (2, .int v2)] → W p l e ({ frames := 5, cells := 0, slots := 0, locals := 114 }) s m [.ref (ad 99)].toArray below meth c H locs 0 0 (MQ below (Ans G out.1 A (dO G ad out.2 dw ++ [])) [.ref (ad 99)].toArray s 0 0 A) (F0 m 10 ls [])) (k16 : Pic → Int32 → Int32 → Option (Int32 × Pic)) (hk16 : ∀ (d_ad : Pic) (v1 : Int32) (v2 : Int32), k16 d_ad v1 v2 = some out → ∀ (H : Heap) (locs : List Loc), Wd G A s H locs (dO G ad d_ad dw ++ []) → ∀ ls : Array Slot, lv_has ls 3 [(0, .ref (ad 99)), (1, .int v1), (2, .int v2)] → W p l e ({ frames := 5, cells := 0, slots := 0, locals := 114 }) s m [.ref (ad 99)].toArray below meth c H locs 0 0 (MQ below (Ans G out.1 A (dO G ad out.2 dw ++ [])) [.ref (ad 99)].toArray s 0 0 A) (F0 m 16 ls [])), ∀ (d_ad : Pic) (v1 : Int32) (v2 : Int32), b_X9_compacts_16  k10 k16 d_ad v1 v2 = some out → ∀ (H : Heap) (locs : List Loc), Wd G A s H locs (dO G ad d_ad dw ++ []) → ∀ ls : Array Slot, lv_has ls 3 [(0, .ref (ad 99)), (1, .int v1), (2, .int v2)] → W p l e ({ frames := 5, cells := 0, slots := 0, locals := 114 }) s m [.ref (ad 99)].toArray below meth c H locs 0 0 (MQ below (Ans G out.1 A (dO G ad out.2 dw ++ [])) [.ref (ad 99)].toArray s 0 0 A) (F0 m 16 ls []) := by
    intro k10 hk10 k16 hk16 d_ad v1 v2 hf H locs hw ls hl
    unfold b_X9_compacts_16 at hf
    refine r_aload0 C hl 0 rfl dX9_compacts_16 ?_
    refine r_iload0 C hl 2 rfl dX9_compacts_17 ?_
    obtain ⟨u3, e3, hf⟩ := bx hf
    refine r_callVi (ws' := (dO G ad d_ad dw ++ [])) (As := [.int v2]) (rest := []) C hw hl.1 kX9_looseOf ml_X9_389 (c_X9_looseOf l G ad _ d_ad dw v2 u3 e3) (CutX.take dO_f CutX.none) _ (gx_h dO_o) rfl ⟨rfl, rfl⟩ ⟨Nat.le_of_ble_eq_true rfl, Nat.le_of_ble_eq_true rfl⟩ rfl ⟨Nat.zero_le _, Nat.zero_le _⟩ rfl (Nat.le_of_ble_eq_true rfl) dX9_compacts_18 (fun H locs hw => ?_)
    refine lv_iconst (v := 1) C.1 C.2.1 dX9_compacts_21 (by decide) ?_
    refine lv_icmp_le (tgt := 33) C.1 C.2.1 dX9_compacts_22 (by decide) (fun hc => ?_) (fun hc => ?_)
    · replace hf := ifp hf hc
      refine r_iload0 C hl 2 rfl dX9_compacts_33 ?_
      refine r_aload0 C hl 0 rfl dX9_compacts_34 ?_
      refine r_get C hw _ (gx_h dO_o) 3 fl_X9_229 rfl dX9_compacts_35 ?_
      refine lv_iadd C.1 C.2.1 dX9_compacts_38 ?_
      refine r_istore0 C hl [(2, .int (v2 + (gS d_ad 3))), (0, .ref (ad 99)), (1, .int v1)] (by decide) rfl dX9_compacts_39 (fun ls hl => ?_)
      refine lv_goto (tgt := 10) C.1 C.2.1 dX9_compacts_40 (by decide) ?_
      exact hk10 d_ad v1 (v2 + (gS d_ad 3)) hf _ _ hw _ (lv_sub hl [1, 2, 0] rfl)
    · replace hf := ifn hf hc
      refine r_aload0 C hl 0 rfl dX9_compacts_25 ?_
      refine r_iload0 C hl 2 rfl dX9_compacts_26 ?_
      obtain ⟨u4, e4, hf⟩ := bx hf
      refine r_callVv (ws' := (dO G ad u4 dw ++ [])) (As := [.int v2]) (rest := []) C hw hl.1 kX9_moves ml_X9_392 (c_X9_moves l G ad _ d_ad dw v2 u4 e4) (CutX.take dO_f CutX.none) _ (gx_h dO_o) rfl ⟨rfl, rfl⟩ ⟨Nat.le_of_ble_eq_true rfl, Nat.le_of_ble_eq_true rfl⟩ rfl ⟨Nat.zero_le _, Nat.zero_le _⟩ rfl (Nat.le_of_ble_eq_true rfl) dX9_compacts_27 (fun H locs hw => ?_)
      refine lv_goto (tgt := 16) C.1 C.2.1 dX9_compacts_30 (by decide) ?_
      exact hk16 u4 v1 v2 hf _ _ hw _ (lv_sub hl [0, 1, 2] rfl)
  have hL_16 : ∀ (k10 : Pic → Int32 → Int32 → Option (Int32 × Pic)) (hk10 : ∀ (d_ad : Pic) (v1 : Int32) (v2 : Int32), k10 d_ad v1 v2 = some out → ∀ (H : Heap) (locs : List Loc), Wd G A s H locs (dO G ad d_ad dw ++ []) → ∀ ls : Array Slot, lv_has ls 3 [(0, .ref (ad 99)), (1, .int v1), (2, .int v2)] → W p l e ({ frames := 5, cells := 0, slots := 0, locals := 114 }) s m [.ref (ad 99)].toArray below meth c H locs 0 0 (MQ below (Ans G out.1 A (dO G ad out.2 dw ++ [])) [.ref (ad 99)].toArray s 0 0 A) (F0 m 10 ls [])), ∀ n : Nat, ∀ (d_ad : Pic) (v1 : Int32) (v2 : Int32), L_X9_compacts_16  k10 n d_ad v1 v2 = some out → ∀ (H : Heap) (locs : List Loc), Wd G A s H locs (dO G ad d_ad dw ++ []) → ∀ ls : Array Slot, lv_has ls 3 [(0, .ref (ad 99)), (1, .int v1), (2, .int v2)] → W p l e ({ frames := 5, cells := 0, slots := 0, locals := 114 }) s m [.ref (ad 99)].toArray below meth c H locs 0 0 (MQ below (Ans G out.1 A (dO G ad out.2 dw ++ [])) [.ref (ad 99)].toArray s 0 0 A) (F0 m 16 ls []) := by
    intro k10 hk10 n
    induction n with
    | zero => intro d_ad v1 v2 hf; cases hf
    | succ n ih => exact hB_16 k10 hk10 _ ih
  have hB_10 : ∀ (k10 : Pic → Int32 → Int32 → Option (Int32 × Pic)) (hk10 : ∀ (d_ad : Pic) (v1 : Int32) (v2 : Int32), k10 d_ad v1 v2 = some out → ∀ (H : Heap) (locs : List Loc), Wd G A s H locs (dO G ad d_ad dw ++ []) → ∀ ls : Array Slot, lv_has ls 3 [(0, .ref (ad 99)), (1, .int v1), (2, .int v2)] → W p l e ({ frames := 5, cells := 0, slots := 0, locals := 114 }) s m [.ref (ad 99)].toArray below meth c H locs 0 0 (MQ below (Ans G out.1 A (dO G ad out.2 dw ++ [])) [.ref (ad 99)].toArray s 0 0 A) (F0 m 10 ls [])), ∀ (d_ad : Pic) (v1 : Int32) (v2 : Int32), b_X9_compacts_10  k10 d_ad v1 v2 = some out → ∀ (H : Heap) (locs : List Loc), Wd G A s H locs (dO G ad d_ad dw ++ []) → ∀ ls : Array Slot, lv_has ls 3 [(0, .ref (ad 99)), (1, .int v1), (2, .int v2)] → W p l e ({ frames := 5, cells := 0, slots := 0, locals := 114 }) s m [.ref (ad 99)].toArray below meth c H locs 0 0 (MQ below (Ans G out.1 A (dO G ad out.2 dw ++ [])) [.ref (ad 99)].toArray s 0 0 A) (F0 m 10 ls []) := by
    intro k10 hk10 d_ad v1 v2 hf H locs hw ls hl
    unfold b_X9_compacts_10 at hf
    refine r_iload0 C hl 2 rfl dX9_compacts_10 ?_
    refine lv_bipush (v := 16) C.1 C.2.1 dX9_compacts_11 (by decide) ?_
    refine lv_icmp_gt (tgt := 43) C.1 C.2.1 dX9_compacts_13 (by decide) (fun hc => ?_) (fun hc => ?_)
    · replace hf := ifp hf hc
      refine r_iload0 C hl 1 rfl dX9_compacts_43 ?_
      refine r_aload0 C hl 0 rfl dX9_compacts_44 ?_
      obtain ⟨u2, e2, hf⟩ := bx hf
      refine r_callVi (ws' := (dO G ad d_ad dw ++ [])) (As := []) (rest := [.int v1]) C hw hl.1 kX9_framesNow ml_X9_356 (c_X9_framesNow l G ad _ d_ad dw u2 e2) (CutX.take dO_f CutX.none) _ (gx_h dO_o) rfl ⟨rfl, rfl⟩ ⟨Nat.le_of_ble_eq_true rfl, Nat.le_of_ble_eq_true rfl⟩ rfl ⟨Nat.zero_le _, Nat.zero_le _⟩ rfl (Nat.le_of_ble_eq_true rfl) dX9_compacts_45 (fun H locs hw => ?_)
      refine lv_isub C.1 C.2.1 dX9_compacts_48 ?_
      exact fin_i C hw (Option.some.inj hf) (fun o => o.1) (fun o => (dO G ad o.2 dw ++ [])) rfl rfl dX9_compacts_49
    · replace hf := ifn hf hc
      exact hL_16 k10 hk10 FU d_ad v1 v2 hf _ _ hw _ (lv_sub hl [0, 1, 2] rfl)
  have hL_10 : ∀ n : Nat, ∀ (d_ad : Pic) (v1 : Int32) (v2 : Int32), L_X9_compacts_10   n d_ad v1 v2 = some out → ∀ (H : Heap) (locs : List Loc), Wd G A s H locs (dO G ad d_ad dw ++ []) → ∀ ls : Array Slot, lv_has ls 3 [(0, .ref (ad 99)), (1, .int v1), (2, .int v2)] → W p l e ({ frames := 5, cells := 0, slots := 0, locals := 114 }) s m [.ref (ad 99)].toArray below meth c H locs 0 0 (MQ below (Ans G out.1 A (dO G ad out.2 dw ++ [])) [.ref (ad 99)].toArray s 0 0 A) (F0 m 10 ls []) := by
    intro  n
    induction n with
    | zero => intro d_ad v1 v2 hf; cases hf
    | succ n ih => exact hB_10 _ ih
  unfold f_X9_compacts at hf
  refine r_aload0 C hl 0 rfl dX9_compacts_0 ?_
  obtain ⟨u1, e1, hf⟩ := bx hf
  refine r_callVi (ws' := (dO G ad d_ad dw ++ [])) (As := []) (rest := []) C hw hl.1 kX9_framesNow ml_X9_356 (c_X9_framesNow l G ad _ d_ad dw u1 e1) (CutX.take dO_f CutX.none) _ (gx_h dO_o) rfl ⟨rfl, rfl⟩ ⟨Nat.le_of_ble_eq_true rfl, Nat.le_of_ble_eq_true rfl⟩ rfl ⟨Nat.zero_le _, Nat.zero_le _⟩ rfl (Nat.le_of_ble_eq_true rfl) dX9_compacts_1 (fun H locs hw => ?_)
  refine r_istore0 C hl [(1, .int u1), (0, .ref (ad 99))] (by decide) rfl dX9_compacts_4 (fun ls hl => ?_)
  refine r_aload0 C hl 1 rfl dX9_compacts_5 ?_
  refine r_get C hw _ (gx_h dO_o) 3 fl_X9_229 rfl dX9_compacts_6 ?_
  refine r_istore0 C hl [(2, .int (gS d_ad 3)), (1, .int u1), (0, .ref (ad 99))] (by decide) rfl dX9_compacts_9 (fun ls hl => ?_)
  exact hL_10  FU d_ad u1 (gS d_ad 3) hf _ _ hw _ (lv_sub hl [2, 1, 0] rfl)
set_option maxHeartbeats 4000000 in
set_option maxRecDepth 100000 in
theorem c_X9_keepsAside (l : Launch) (G : GG) (ad : Nat → Nat) (sz : Nat) (d_ad : Pic) (dw : Int64)  (out : Pic) (hf : f_X9_keepsAside d_ad = some out) : Met l yX9_keepsAside (.code yX9_keepsAside cX9_keepsAside 2 none :: BT) ({ frames := 0, cells := 0, slots := 0, locals := 0 }) (va_Pc [.ref (ad 99)] (PreW G sz (dO G ad d_ad dw ++ []))) (Don G (va_A (dO G ad d_ad dw ++ []) sz) (dO G ad out dw ++ [])) 0 0 (va_A (dO G ad d_ad dw ++ []) sz) := by
  refine Met.into (by decide) (Nat.le_of_ble_eq_true rfl) ?_
  intro p e s m below meth c C hsz ls hl hw
  have hl : lv_has ls 2 [(0, .ref (ad 99))] := hl
  clear hsz
  generalize va_A (dO G ad d_ad dw ++ []) sz = A at hw ⊢
  have hB_2 : ∀ (k2 : Pic → Int32 → Option (Pic)) (hk2 : ∀ (d_ad : Pic) (v1 : Int32), k2 d_ad v1 = some out → ∀ (H : Heap) (locs : List Loc), Wd G A s H locs (dO G ad d_ad dw ++ []) → ∀ ls : Array Slot, lv_has ls 2 [(0, .ref (ad 99)), (1, .int v1)] → W p l e ({ frames := 0, cells := 0, slots := 0, locals := 0 }) s m [.ref (ad 99)].toArray below meth c H locs 0 0 (MQ below (Don G A (dO G ad out dw ++ [])) [.ref (ad 99)].toArray s 0 0 A) (F0 m 2 ls [])), ∀ (d_ad : Pic) (v1 : Int32), b_X9_keepsAside_2  k2 d_ad v1 = some out → ∀ (H : Heap) (locs : List Loc), Wd G A s H locs (dO G ad d_ad dw ++ []) → ∀ ls : Array Slot, lv_has ls 2 [(0, .ref (ad 99)), (1, .int v1)] → W p l e ({ frames := 0, cells := 0, slots := 0, locals := 0 }) s m [.ref (ad 99)].toArray below meth c H locs 0 0 (MQ below (Don G A (dO G ad out dw ++ [])) [.ref (ad 99)].toArray s 0 0 A) (F0 m 2 ls []) := by
    intro k2 hk2 d_ad v1 hf H locs hw ls hl
    unfold b_X9_keepsAside_2 at hf
    refine r_iload0 C hl 1 rfl dX9_keepsAside_2 ?_
    refine lv_sipush (v := 1234) C.1 C.2.1 dX9_keepsAside_3 (by decide) ?_
    refine lv_icmp_ge (tgt := 27) C.1 C.2.1 dX9_keepsAside_6 (by decide) (fun hc => ?_) (fun hc => ?_)
    · replace hf := ifp hf hc
      exact fin_v C hw (Option.some.inj hf) (fun o => (dO G ad o dw ++ [])) rfl dX9_keepsAside_27
    · replace hf := ifn hf hc
      refine r_aload0 C hl 0 rfl dX9_keepsAside_9 ?_
      refine r_get C hw _ (gx_h dO_o) 21 fl_X9_38 rfl dX9_keepsAside_10 ?_
      refine r_iload0 C hl 1 rfl dX9_keepsAside_13 ?_
      refine r_aload0 C hl 0 rfl dX9_keepsAside_14 ?_
      refine r_get C hw _ (gx_h dO_o) 20 fl_X9_35 rfl dX9_keepsAside_15 ?_
      refine r_iload0 C hl 1 rfl dX9_keepsAside_18 ?_
      obtain ⟨v1_, e1, hf⟩ := bx hf
      refine r_iald C hw _ (gx_h dO_g20) e1 dX9_keepsAside_19 ?_
      obtain ⟨d_ad2, e2, hf⟩ := bx hf
      refine r_iast C hw _ (gx_h dO_g21) e2 (dO G ad d_ad2 dw ++ []) (fun h => (sx_h dO_g21 (dO_s21 h))) dX9_keepsAside_20 (fun H locs hw => ?_)
      refine r_iinc C hl 1 (v1 + 1) [(1, .int (v1 + 1)), (0, .ref (ad 99))] rfl (iinc_e (by decide)) (by decide) rfl dX9_keepsAside_21 (fun ls hl => ?_)
      refine lv_goto (tgt := 2) C.1 C.2.1 dX9_keepsAside_24 (by decide) ?_
      exact hk2 d_ad2 (v1 + 1) hf _ _ hw _ (lv_sub hl [1, 0] rfl)
  have hL_2 : ∀ n : Nat, ∀ (d_ad : Pic) (v1 : Int32), L_X9_keepsAside_2   n d_ad v1 = some out → ∀ (H : Heap) (locs : List Loc), Wd G A s H locs (dO G ad d_ad dw ++ []) → ∀ ls : Array Slot, lv_has ls 2 [(0, .ref (ad 99)), (1, .int v1)] → W p l e ({ frames := 0, cells := 0, slots := 0, locals := 0 }) s m [.ref (ad 99)].toArray below meth c H locs 0 0 (MQ below (Don G A (dO G ad out dw ++ [])) [.ref (ad 99)].toArray s 0 0 A) (F0 m 2 ls []) := by
    intro  n
    induction n with
    | zero => intro d_ad v1 hf; cases hf
    | succ n ih => exact hB_2 _ ih
  unfold f_X9_keepsAside at hf
  refine lv_iconst (v := 0) C.1 C.2.1 dX9_keepsAside_0 (by decide) ?_
  refine r_istore0 C hl [(1, .int 0), (0, .ref (ad 99))] (by decide) rfl dX9_keepsAside_1 (fun ls hl => ?_)
  exact hL_2  FU d_ad 0 hf _ _ hw _ (lv_sub hl [1, 0] rfl)
set_option maxHeartbeats 4000000 in
set_option maxRecDepth 100000 in
theorem c_X9_bringsBack (l : Launch) (G : GG) (ad : Nat → Nat) (sz : Nat) (d_ad : Pic) (dw : Int64)  (out : Pic) (hf : f_X9_bringsBack d_ad = some out) : Met l yX9_bringsBack (.code yX9_bringsBack cX9_bringsBack 2 none :: BT) ({ frames := 0, cells := 0, slots := 0, locals := 0 }) (va_Pc [.ref (ad 99)] (PreW G sz (dO G ad d_ad dw ++ []))) (Don G (va_A (dO G ad d_ad dw ++ []) sz) (dO G ad out dw ++ [])) 0 0 (va_A (dO G ad d_ad dw ++ []) sz) := by
  refine Met.into (by decide) (Nat.le_of_ble_eq_true rfl) ?_
  intro p e s m below meth c C hsz ls hl hw
  have hl : lv_has ls 2 [(0, .ref (ad 99))] := hl
  clear hsz
  generalize va_A (dO G ad d_ad dw ++ []) sz = A at hw ⊢
  have hB_2 : ∀ (k2 : Pic → Int32 → Option (Pic)) (hk2 : ∀ (d_ad : Pic) (v1 : Int32), k2 d_ad v1 = some out → ∀ (H : Heap) (locs : List Loc), Wd G A s H locs (dO G ad d_ad dw ++ []) → ∀ ls : Array Slot, lv_has ls 2 [(0, .ref (ad 99)), (1, .int v1)] → W p l e ({ frames := 0, cells := 0, slots := 0, locals := 0 }) s m [.ref (ad 99)].toArray below meth c H locs 0 0 (MQ below (Don G A (dO G ad out dw ++ [])) [.ref (ad 99)].toArray s 0 0 A) (F0 m 2 ls [])), ∀ (d_ad : Pic) (v1 : Int32), b_X9_bringsBack_2  k2 d_ad v1 = some out → ∀ (H : Heap) (locs : List Loc), Wd G A s H locs (dO G ad d_ad dw ++ []) → ∀ ls : Array Slot, lv_has ls 2 [(0, .ref (ad 99)), (1, .int v1)] → W p l e ({ frames := 0, cells := 0, slots := 0, locals := 0 }) s m [.ref (ad 99)].toArray below meth c H locs 0 0 (MQ below (Don G A (dO G ad out dw ++ [])) [.ref (ad 99)].toArray s 0 0 A) (F0 m 2 ls []) := by
    intro k2 hk2 d_ad v1 hf H locs hw ls hl
    unfold b_X9_bringsBack_2 at hf
    refine r_iload0 C hl 1 rfl dX9_bringsBack_2 ?_
    refine lv_sipush (v := 1234) C.1 C.2.1 dX9_bringsBack_3 (by decide) ?_
    refine lv_icmp_ge (tgt := 27) C.1 C.2.1 dX9_bringsBack_6 (by decide) (fun hc => ?_) (fun hc => ?_)
    · replace hf := ifp hf hc
      exact fin_v C hw (Option.some.inj hf) (fun o => (dO G ad o dw ++ [])) rfl dX9_bringsBack_27
    · replace hf := ifn hf hc
      refine r_aload0 C hl 0 rfl dX9_bringsBack_9 ?_
      refine r_get C hw _ (gx_h dO_o) 20 fl_X9_35 rfl dX9_bringsBack_10 ?_
      refine r_iload0 C hl 1 rfl dX9_bringsBack_13 ?_
      refine r_aload0 C hl 0 rfl dX9_bringsBack_14 ?_
      refine r_get C hw _ (gx_h dO_o) 21 fl_X9_38 rfl dX9_bringsBack_15 ?_
      refine r_iload0 C hl 1 rfl dX9_bringsBack_18 ?_
      obtain ⟨v1_, e1, hf⟩ := bx hf
      refine r_iald C hw _ (gx_h dO_g21) e1 dX9_bringsBack_19 ?_
      obtain ⟨d_ad2, e2, hf⟩ := bx hf
      refine r_iast C hw _ (gx_h dO_g20) e2 (dO G ad d_ad2 dw ++ []) (fun h => (sx_h dO_g20 (dO_s20 h))) dX9_bringsBack_20 (fun H locs hw => ?_)
      refine r_iinc C hl 1 (v1 + 1) [(1, .int (v1 + 1)), (0, .ref (ad 99))] rfl (iinc_e (by decide)) (by decide) rfl dX9_bringsBack_21 (fun ls hl => ?_)
      refine lv_goto (tgt := 2) C.1 C.2.1 dX9_bringsBack_24 (by decide) ?_
      exact hk2 d_ad2 (v1 + 1) hf _ _ hw _ (lv_sub hl [1, 0] rfl)
  have hL_2 : ∀ n : Nat, ∀ (d_ad : Pic) (v1 : Int32), L_X9_bringsBack_2   n d_ad v1 = some out → ∀ (H : Heap) (locs : List Loc), Wd G A s H locs (dO G ad d_ad dw ++ []) → ∀ ls : Array Slot, lv_has ls 2 [(0, .ref (ad 99)), (1, .int v1)] → W p l e ({ frames := 0, cells := 0, slots := 0, locals := 0 }) s m [.ref (ad 99)].toArray below meth c H locs 0 0 (MQ below (Don G A (dO G ad out dw ++ [])) [.ref (ad 99)].toArray s 0 0 A) (F0 m 2 ls []) := by
    intro  n
    induction n with
    | zero => intro d_ad v1 hf; cases hf
    | succ n ih => exact hB_2 _ ih
  unfold f_X9_bringsBack at hf
  refine lv_iconst (v := 0) C.1 C.2.1 dX9_bringsBack_0 (by decide) ?_
  refine r_istore0 C hl [(1, .int 0), (0, .ref (ad 99))] (by decide) rfl dX9_bringsBack_1 (fun ls hl => ?_)
  exact hL_2  FU d_ad 0 hf _ _ hw _ (lv_sub hl [1, 0] rfl)
set_option maxHeartbeats 4000000 in
set_option maxRecDepth 100000 in
theorem c_X9_gain (l : Launch) (G : GG) (ad : Nat → Nat) (sz : Nat) (d_ad : Pic) (dw : Int64)  (out : Int32 × Pic) (hf : f_X9_gain d_ad = some out) : Met l yX9_gain (.code yX9_gain cX9_gain 2 (some .int) :: BT) ({ frames := 6, cells := 0, slots := 0, locals := 136 }) (va_Pc [.ref (ad 99)] (PreW G sz (dO G ad d_ad dw ++ []))) (Ans G out.1 (va_A (dO G ad d_ad dw ++ []) sz) (dO G ad out.2 dw ++ [])) 0 0 (va_A (dO G ad d_ad dw ++ []) sz) := by
  refine Met.into (by decide) (Nat.le_of_ble_eq_true rfl) ?_
  intro p e s m below meth c C hsz ls hl hw
  have hl : lv_has ls 2 [(0, .ref (ad 99))] := hl
  clear hsz
  generalize va_A (dO G ad d_ad dw ++ []) sz = A at hw ⊢
  unfold f_X9_gain at hf
  refine r_aload0 C hl 0 rfl dX9_gain_0 ?_
  refine lv_iconst (v := 0) C.1 C.2.1 dX9_gain_1 (by decide) ?_
  obtain ⟨d_ad1, e1, hf⟩ := bx hf
  refine r_put C hw _ (gx_h dO_o) 0 fp_X9_75 rfl rfl (Nat.le_of_ble_eq_true rfl) (dO G ad d_ad1 dw ++ []) (sx_h dO_o (dO_p0 e1)) dX9_gain_2 (fun H locs hw => ?_)
  refine r_aload0 C hl 0 rfl dX9_gain_5 ?_
  refine r_get C hw _ (gx_h dO_o) 19 fl_X9_225 rfl dX9_gain_6 ?_
  refine lv_if_ne (tgt := 18) C.1 C.2.1 dX9_gain_9 (by decide) (fun hc => ?_) (fun hc => ?_)
  · replace hf := ifn hf hc
    refine r_aload0 C hl 0 rfl dX9_gain_18 ?_
    obtain ⟨u2, e2, hf⟩ := bx hf
    refine r_callVv (ws' := (dO G ad u2 dw ++ [])) (As := []) (rest := []) C hw hl.1 kX9_keepsAside ml_X9_395 (c_X9_keepsAside l G ad _ d_ad1 dw u2 e2) (CutX.take dO_f CutX.none) _ (gx_h dO_o) rfl ⟨rfl, rfl⟩ ⟨Nat.le_of_ble_eq_true rfl, Nat.le_of_ble_eq_true rfl⟩ rfl ⟨Nat.zero_le _, Nat.zero_le _⟩ rfl (Nat.le_of_ble_eq_true rfl) dX9_gain_19 (fun H locs hw => ?_)
    refine r_aload0 C hl 0 rfl dX9_gain_22 ?_
    obtain ⟨u3, e3, hf⟩ := bx hf
    refine r_callVi (ws' := (dO G ad u3.2 dw ++ [])) (As := []) (rest := []) C hw hl.1 kX9_compacts ml_X9_398 (c_X9_compacts l G ad _ u2 dw u3 e3) (CutX.take dO_f CutX.none) _ (gx_h dO_o) rfl ⟨rfl, rfl⟩ ⟨Nat.le_of_ble_eq_true rfl, Nat.le_of_ble_eq_true rfl⟩ rfl ⟨Nat.zero_le _, Nat.zero_le _⟩ rfl (Nat.le_of_ble_eq_true rfl) dX9_gain_23 (fun H locs hw => ?_)
    refine r_istore0 C hl [(1, .int u3.1), (0, .ref (ad 99))] (by decide) rfl dX9_gain_26 (fun ls hl => ?_)
    refine r_aload0 C hl 1 rfl dX9_gain_27 ?_
    obtain ⟨u4, e4, hf⟩ := bx hf
    refine r_callVv (ws' := (dO G ad u4 dw ++ [])) (As := []) (rest := []) C hw hl.1 kX9_bringsBack ml_X9_401 (c_X9_bringsBack l G ad _ u3.2 dw u4 e4) (CutX.take dO_f CutX.none) _ (gx_h dO_o) rfl ⟨rfl, rfl⟩ ⟨Nat.le_of_ble_eq_true rfl, Nat.le_of_ble_eq_true rfl⟩ rfl ⟨Nat.zero_le _, Nat.zero_le _⟩ rfl (Nat.le_of_ble_eq_true rfl) dX9_gain_28 (fun H locs hw => ?_)
    refine r_aload0 C hl 1 rfl dX9_gain_31 ?_
    refine r_iload0 C hl 0 rfl dX9_gain_32 ?_
    obtain ⟨u5, e5, hf⟩ := bx hf
    refine r_callVi (ws' := (dO G ad u5.2 dw ++ [])) (As := [.int u3.1]) (rest := []) C hw hl.1 kX9_good ml_X9_222 (c_X9_good l G ad _ u4 dw u3.1 u5 e5) (CutX.take dO_f CutX.none) _ (gx_h dO_o) rfl ⟨rfl, rfl⟩ ⟨Nat.le_of_ble_eq_true rfl, Nat.le_of_ble_eq_true rfl⟩ rfl ⟨Nat.zero_le _, Nat.zero_le _⟩ rfl (Nat.le_of_ble_eq_true rfl) dX9_gain_33 (fun H locs hw => ?_)
    exact fin_i C hw (Option.some.inj hf) (fun o => o.1) (fun o => (dO G ad o.2 dw ++ [])) rfl rfl dX9_gain_36
  · replace hf := ifp hf hc
    refine r_aload0 C hl 0 rfl dX9_gain_12 ?_
    refine lv_iconst (v := 1) C.1 C.2.1 dX9_gain_13 (by decide) ?_
    obtain ⟨u6, e6, hf⟩ := bx hf
    refine r_callVi (ws' := (dO G ad u6.2 dw ++ [])) (As := [.int 1]) (rest := []) C hw hl.1 kX9_refused ml_X9_210 (c_X9_refused l G ad _ d_ad1 dw 1 u6 e6) (CutX.take dO_f CutX.none) _ (gx_h dO_o) rfl ⟨rfl, rfl⟩ ⟨Nat.le_of_ble_eq_true rfl, Nat.le_of_ble_eq_true rfl⟩ rfl ⟨Nat.zero_le _, Nat.zero_le _⟩ rfl (Nat.le_of_ble_eq_true rfl) dX9_gain_14 (fun H locs hw => ?_)
    exact fin_i C hw (Option.some.inj hf) (fun o => o.1) (fun o => (dO G ad o.2 dw ++ [])) rfl rfl dX9_gain_17
set_option maxHeartbeats 4000000 in
set_option maxRecDepth 100000 in
theorem c_X9_goes (l : Launch) (G : GG) (ad : Nat → Nat) (sz : Nat) (d_ad : Pic) (dw : Int64) (x1 : Int32) (out : Int32 × Pic) (hf : f_X9_goes d_ad x1 = some out) : Met l yX9_goes (.code yX9_goes cX9_goes 3 (some .int) :: BT) ({ frames := 4, cells := 0, slots := 0, locals := 87 }) (va_Pc [.ref (ad 99), .int x1] (PreW G sz (dO G ad d_ad dw ++ []))) (Ans G out.1 (va_A (dO G ad d_ad dw ++ []) sz) (dO G ad out.2 dw ++ [])) 0 0 (va_A (dO G ad d_ad dw ++ []) sz) := by
  refine Met.into (by decide) (Nat.le_of_ble_eq_true rfl) ?_
  intro p e s m below meth c C hsz ls hl hw
  have hl : lv_has ls 3 [(0, .ref (ad 99)), (1, .int x1)] := hl
  clear hsz
  generalize va_A (dO G ad d_ad dw ++ []) sz = A at hw ⊢
  have hB_2 : ∀ (k2 : Pic → Int32 → Option (Int32 × Pic)) (hk2 : ∀ (d_ad : Pic) (v2 : Int32), k2 d_ad v2 = some out → ∀ (H : Heap) (locs : List Loc), Wd G A s H locs (dO G ad d_ad dw ++ []) → ∀ ls : Array Slot, lv_has ls 3 [(0, .ref (ad 99)), (1, .int x1), (2, .int v2)] → W p l e ({ frames := 4, cells := 0, slots := 0, locals := 87 }) s m [.ref (ad 99), .int x1].toArray below meth c H locs 0 0 (MQ below (Ans G out.1 A (dO G ad out.2 dw ++ [])) [.ref (ad 99), .int x1].toArray s 0 0 A) (F0 m 2 ls [])), ∀ (d_ad : Pic) (v2 : Int32), b_X9_goes_2 x1 k2 d_ad v2 = some out → ∀ (H : Heap) (locs : List Loc), Wd G A s H locs (dO G ad d_ad dw ++ []) → ∀ ls : Array Slot, lv_has ls 3 [(0, .ref (ad 99)), (1, .int x1), (2, .int v2)] → W p l e ({ frames := 4, cells := 0, slots := 0, locals := 87 }) s m [.ref (ad 99), .int x1].toArray below meth c H locs 0 0 (MQ below (Ans G out.1 A (dO G ad out.2 dw ++ [])) [.ref (ad 99), .int x1].toArray s 0 0 A) (F0 m 2 ls []) := by
    intro k2 hk2 d_ad v2 hf H locs hw ls hl
    unfold b_X9_goes_2 at hf
    refine r_aload0 C hl 0 rfl dX9_goes_2 ?_
    obtain ⟨u1, e1, hf⟩ := bx hf
    refine r_callVi (ws' := (dO G ad d_ad dw ++ [])) (As := []) (rest := []) C hw hl.1 kX9_framesNow ml_X9_356 (c_X9_framesNow l G ad _ d_ad dw u1 e1) (CutX.take dO_f CutX.none) _ (gx_h dO_o) rfl ⟨rfl, rfl⟩ ⟨Nat.le_of_ble_eq_true rfl, Nat.le_of_ble_eq_true rfl⟩ rfl ⟨Nat.zero_le _, Nat.zero_le _⟩ rfl (Nat.le_of_ble_eq_true rfl) dX9_goes_3 (fun H locs hw => ?_)
    refine r_iload0 C hl 1 rfl dX9_goes_6 ?_
    refine lv_icmp_le (tgt := 29) C.1 C.2.1 dX9_goes_7 (by decide) (fun hc => ?_) (fun hc => ?_)
    · replace hf := ifp hf hc
      refine r_iload0 C hl 2 rfl dX9_goes_29 ?_
      exact fin_i C hw (Option.some.inj hf) (fun o => o.1) (fun o => (dO G ad o.2 dw ++ [])) rfl rfl dX9_goes_30
    · replace hf := ifn hf hc
      refine r_aload0 C hl 0 rfl dX9_goes_10 ?_
      obtain ⟨u2, e2, hf⟩ := bx hf
      refine r_callVi (ws' := (dO G ad d_ad dw ++ [])) (As := []) (rest := []) C hw hl.1 kX9_coldestFree ml_X9_337 (c_X9_coldestFree l G ad _ d_ad dw u2 e2) (CutX.take dO_f CutX.none) _ (gx_h dO_o) rfl ⟨rfl, rfl⟩ ⟨Nat.le_of_ble_eq_true rfl, Nat.le_of_ble_eq_true rfl⟩ rfl ⟨Nat.zero_le _, Nat.zero_le _⟩ rfl (Nat.le_of_ble_eq_true rfl) dX9_goes_11 (fun H locs hw => ?_)
      refine lv_iconst (v := (-1)) C.1 C.2.1 dX9_goes_14 (by decide) ?_
      refine lv_icmp_eq (tgt := 29) C.1 C.2.1 dX9_goes_15 (by decide) (fun hc => ?_) (fun hc => ?_)
      · replace hf := ifp hf hc
        refine r_iload0 C hl 2 rfl dX9_goes_29 ?_
        exact fin_i C hw (Option.some.inj hf) (fun o => o.1) (fun o => (dO G ad o.2 dw ++ [])) rfl rfl dX9_goes_30
      · replace hf := ifn hf hc
        refine r_aload0 C hl 0 rfl dX9_goes_18 ?_
        obtain ⟨u3, e3, hf⟩ := bx hf
        refine r_callVi (ws' := (dO G ad u3.2 dw ++ [])) (As := []) (rest := []) C hw hl.1 kX9_writesColdest ml_X9_362 (c_X9_writesColdest l G ad _ d_ad dw u3 e3) (CutX.take dO_f CutX.none) _ (gx_h dO_o) rfl ⟨rfl, rfl⟩ ⟨Nat.le_of_ble_eq_true rfl, Nat.le_of_ble_eq_true rfl⟩ rfl ⟨Nat.zero_le _, Nat.zero_le _⟩ rfl (Nat.le_of_ble_eq_true rfl) dX9_goes_19 (fun H locs hw => ?_)
        refine lv_pop C.1 C.2.1 dX9_goes_22 rfl ?_
        refine r_iinc C hl 2 (v2 + 1) [(2, .int (v2 + 1)), (0, .ref (ad 99)), (1, .int x1)] rfl (iinc_e (by decide)) (by decide) rfl dX9_goes_23 (fun ls hl => ?_)
        refine lv_goto (tgt := 2) C.1 C.2.1 dX9_goes_26 (by decide) ?_
        exact hk2 u3.2 (v2 + 1) hf _ _ hw _ (lv_sub hl [1, 2, 0] rfl)
  have hL_2 : ∀ n : Nat, ∀ (d_ad : Pic) (v2 : Int32), L_X9_goes_2 x1  n d_ad v2 = some out → ∀ (H : Heap) (locs : List Loc), Wd G A s H locs (dO G ad d_ad dw ++ []) → ∀ ls : Array Slot, lv_has ls 3 [(0, .ref (ad 99)), (1, .int x1), (2, .int v2)] → W p l e ({ frames := 4, cells := 0, slots := 0, locals := 87 }) s m [.ref (ad 99), .int x1].toArray below meth c H locs 0 0 (MQ below (Ans G out.1 A (dO G ad out.2 dw ++ [])) [.ref (ad 99), .int x1].toArray s 0 0 A) (F0 m 2 ls []) := by
    intro  n
    induction n with
    | zero => intro d_ad v2 hf; cases hf
    | succ n ih => exact hB_2 _ ih
  unfold f_X9_goes at hf
  refine lv_iconst (v := 0) C.1 C.2.1 dX9_goes_0 (by decide) ?_
  refine r_istore0 C hl [(2, .int 0), (0, .ref (ad 99)), (1, .int x1)] (by decide) rfl dX9_goes_1 (fun ls hl => ?_)
  exact hL_2  FU d_ad 0 hf _ _ hw _ (lv_sub hl [1, 2, 0] rfl)
set_option maxHeartbeats 4000000 in
set_option maxRecDepth 100000 in
theorem c_X9_would (l : Launch) (G : GG) (ad : Nat → Nat) (sz : Nat) (d_ad : Pic) (dw : Int64) (x1 : Int32) (x2 : Int32) (out : Int32 × Pic) (hf : f_X9_would d_ad x1 x2 = some out) : Met l yX9_would (.code yX9_would cX9_would 4 (some .int) :: BT) ({ frames := 6, cells := 0, slots := 0, locals := 136 }) (va_Pc [.ref (ad 99), .int x1, .int x2] (PreW G sz (dO G ad d_ad dw ++ []))) (Ans G out.1 (va_A (dO G ad d_ad dw ++ []) sz) (dO G ad out.2 dw ++ [])) 0 0 (va_A (dO G ad d_ad dw ++ []) sz) := by
  refine Met.into (by decide) (Nat.le_of_ble_eq_true rfl) ?_
  intro p e s m below meth c C hsz ls hl hw
  have hl : lv_has ls 4 [(0, .ref (ad 99)), (1, .int x1), (2, .int x2)] := hl
  clear hsz
  generalize va_A (dO G ad d_ad dw ++ []) sz = A at hw ⊢
  have hB_47 : ∀ (d_ad : Pic), b_X9_would_47 x1 x2  d_ad = some out → ∀ (H : Heap) (locs : List Loc), Wd G A s H locs (dO G ad d_ad dw ++ []) → ∀ ls : Array Slot, lv_has ls 4 [(0, .ref (ad 99)), (1, .int x1)] → W p l e ({ frames := 6, cells := 0, slots := 0, locals := 136 }) s m [.ref (ad 99), .int x1, .int x2].toArray below meth c H locs 0 0 (MQ below (Ans G out.1 A (dO G ad out.2 dw ++ [])) [.ref (ad 99), .int x1, .int x2].toArray s 0 0 A) (F0 m 47 ls []) := by
    intro d_ad hf H locs hw ls hl
    unfold b_X9_would_47 at hf
    refine r_aload0 C hl 0 rfl dX9_would_47 ?_
    refine r_iload0 C hl 1 rfl dX9_would_48 ?_
    obtain ⟨u4, e4, hf⟩ := bx hf
    refine r_callVi (ws' := (dO G ad u4.2 dw ++ [])) (As := [.int x1]) (rest := []) C hw hl.1 kX9_goes ml_X9_404 (c_X9_goes l G ad _ d_ad dw x1 u4 e4) (CutX.take dO_f CutX.none) _ (gx_h dO_o) rfl ⟨rfl, rfl⟩ ⟨Nat.le_of_ble_eq_true rfl, Nat.le_of_ble_eq_true rfl⟩ rfl ⟨Nat.zero_le _, Nat.zero_le _⟩ rfl (Nat.le_of_ble_eq_true rfl) dX9_would_49 (fun H locs hw => ?_)
    refine r_istore0 C hl [(3, .int u4.1), (0, .ref (ad 99)), (1, .int x1)] (by decide) rfl dX9_would_52 (fun ls hl => ?_)
    refine r_aload0 C hl 1 rfl dX9_would_53 ?_
    obtain ⟨u5, e5, hf⟩ := bx hf
    refine r_callVv (ws' := (dO G ad u5 dw ++ [])) (As := []) (rest := []) C hw hl.1 kX9_bringsBack ml_X9_401 (c_X9_bringsBack l G ad _ u4.2 dw u5 e5) (CutX.take dO_f CutX.none) _ (gx_h dO_o) rfl ⟨rfl, rfl⟩ ⟨Nat.le_of_ble_eq_true rfl, Nat.le_of_ble_eq_true rfl⟩ rfl ⟨Nat.zero_le _, Nat.zero_le _⟩ rfl (Nat.le_of_ble_eq_true rfl) dX9_would_54 (fun H locs hw => ?_)
    refine r_aload0 C hl 1 rfl dX9_would_57 ?_
    refine r_iload0 C hl 0 rfl dX9_would_58 ?_
    obtain ⟨u6, e6, hf⟩ := bx hf
    refine r_callVi (ws' := (dO G ad u6.2 dw ++ [])) (As := [.int u4.1]) (rest := []) C hw hl.1 kX9_good ml_X9_222 (c_X9_good l G ad _ u5 dw u4.1 u6 e6) (CutX.take dO_f CutX.none) _ (gx_h dO_o) rfl ⟨rfl, rfl⟩ ⟨Nat.le_of_ble_eq_true rfl, Nat.le_of_ble_eq_true rfl⟩ rfl ⟨Nat.zero_le _, Nat.zero_le _⟩ rfl (Nat.le_of_ble_eq_true rfl) dX9_would_59 (fun H locs hw => ?_)
    exact fin_i C hw (Option.some.inj hf) (fun o => o.1) (fun o => (dO G ad o.2 dw ++ [])) rfl rfl dX9_would_62
  unfold f_X9_would at hf
  refine r_aload0 C hl 0 rfl dX9_would_0 ?_
  refine lv_iconst (v := 0) C.1 C.2.1 dX9_would_1 (by decide) ?_
  obtain ⟨d_ad1, e1, hf⟩ := bx hf
  refine r_put C hw _ (gx_h dO_o) 0 fp_X9_75 rfl rfl (Nat.le_of_ble_eq_true rfl) (dO G ad d_ad1 dw ++ []) (sx_h dO_o (dO_p0 e1)) dX9_would_2 (fun H locs hw => ?_)
  refine r_aload0 C hl 0 rfl dX9_would_5 ?_
  refine r_get C hw _ (gx_h dO_o) 19 fl_X9_225 rfl dX9_would_6 ?_
  refine lv_if_ne (tgt := 18) C.1 C.2.1 dX9_would_9 (by decide) (fun hc => ?_) (fun hc => ?_)
  · replace hf := ifn hf hc
    refine r_iload0 C hl 1 rfl dX9_would_18 ?_
    refine lv_iconst (v := 1) C.1 C.2.1 dX9_would_19 (by decide) ?_
    refine lv_bipush (v := 24) C.1 C.2.1 dX9_would_20 (by decide) ?_
    obtain ⟨u2, e2, hf⟩ := bx hf
    refine r_callSi (ws' := (dO G ad d_ad1 dw ++ [])) (As := [.int x1, .int 1, .int 24]) (rest := []) C hw hl.1 kX9_in ml_X9_100 (c_X9_in l G _ x1 1 24 u2 e2) CutX.none ⟨rfl, rfl⟩ ⟨Nat.le_of_ble_eq_true rfl, Nat.le_of_ble_eq_true rfl⟩ rfl ⟨Nat.zero_le _, Nat.zero_le _⟩ rfl (Nat.le_of_ble_eq_true rfl) dX9_would_22 (fun H locs hw => ?_)
    refine lv_if_ne (tgt := 34) C.1 C.2.1 dX9_would_25 (by decide) (fun hc => ?_) (fun hc => ?_)
    · replace hf := ifn hf hc
      refine r_aload0 C hl 0 rfl dX9_would_34 ?_
      obtain ⟨u3, e3, hf⟩ := bx hf
      refine r_callVv (ws' := (dO G ad u3 dw ++ [])) (As := []) (rest := []) C hw hl.1 kX9_keepsAside ml_X9_395 (c_X9_keepsAside l G ad _ d_ad1 dw u3 e3) (CutX.take dO_f CutX.none) _ (gx_h dO_o) rfl ⟨rfl, rfl⟩ ⟨Nat.le_of_ble_eq_true rfl, Nat.le_of_ble_eq_true rfl⟩ rfl ⟨Nat.zero_le _, Nat.zero_le _⟩ rfl (Nat.le_of_ble_eq_true rfl) dX9_would_35 (fun H locs hw => ?_)
      refine r_iload0 C hl 2 rfl dX9_would_38 ?_
      refine lv_if_eq (tgt := 47) C.1 C.2.1 dX9_would_39 (by decide) (fun hc => ?_) (fun hc => ?_)
      · replace hf := ifp hf hc
        exact hB_47  u3 hf _ _ hw _ (lv_sub hl [0, 1] rfl)
      · replace hf := ifn hf hc
        refine r_aload0 C hl 0 rfl dX9_would_42 ?_
        obtain ⟨u7, e7, hf⟩ := bx hf
        refine r_callVi (ws' := (dO G ad u7.2 dw ++ [])) (As := []) (rest := []) C hw hl.1 kX9_compacts ml_X9_398 (c_X9_compacts l G ad _ u3 dw u7 e7) (CutX.take dO_f CutX.none) _ (gx_h dO_o) rfl ⟨rfl, rfl⟩ ⟨Nat.le_of_ble_eq_true rfl, Nat.le_of_ble_eq_true rfl⟩ rfl ⟨Nat.zero_le _, Nat.zero_le _⟩ rfl (Nat.le_of_ble_eq_true rfl) dX9_would_43 (fun H locs hw => ?_)
        refine lv_pop C.1 C.2.1 dX9_would_46 rfl ?_
        exact hB_47  u7.2 hf _ _ hw _ (lv_sub hl [0, 1] rfl)
    · replace hf := ifp hf hc
      refine r_aload0 C hl 0 rfl dX9_would_28 ?_
      refine lv_iconst (v := 2) C.1 C.2.1 dX9_would_29 (by decide) ?_
      obtain ⟨u8, e8, hf⟩ := bx hf
      refine r_callVi (ws' := (dO G ad u8.2 dw ++ [])) (As := [.int 2]) (rest := []) C hw hl.1 kX9_refused ml_X9_210 (c_X9_refused l G ad _ d_ad1 dw 2 u8 e8) (CutX.take dO_f CutX.none) _ (gx_h dO_o) rfl ⟨rfl, rfl⟩ ⟨Nat.le_of_ble_eq_true rfl, Nat.le_of_ble_eq_true rfl⟩ rfl ⟨Nat.zero_le _, Nat.zero_le _⟩ rfl (Nat.le_of_ble_eq_true rfl) dX9_would_30 (fun H locs hw => ?_)
      exact fin_i C hw (Option.some.inj hf) (fun o => o.1) (fun o => (dO G ad o.2 dw ++ [])) rfl rfl dX9_would_33
  · replace hf := ifp hf hc
    refine r_aload0 C hl 0 rfl dX9_would_12 ?_
    refine lv_iconst (v := 1) C.1 C.2.1 dX9_would_13 (by decide) ?_
    obtain ⟨u9, e9, hf⟩ := bx hf
    refine r_callVi (ws' := (dO G ad u9.2 dw ++ [])) (As := [.int 1]) (rest := []) C hw hl.1 kX9_refused ml_X9_210 (c_X9_refused l G ad _ d_ad1 dw 1 u9 e9) (CutX.take dO_f CutX.none) _ (gx_h dO_o) rfl ⟨rfl, rfl⟩ ⟨Nat.le_of_ble_eq_true rfl, Nat.le_of_ble_eq_true rfl⟩ rfl ⟨Nat.zero_le _, Nat.zero_le _⟩ rfl (Nat.le_of_ble_eq_true rfl) dX9_would_14 (fun H locs hw => ?_)
    exact fin_i C hw (Option.some.inj hf) (fun o => o.1) (fun o => (dO G ad o.2 dw ++ [])) rfl rfl dX9_would_17
set_option maxHeartbeats 4000000 in
set_option maxRecDepth 100000 in
theorem c_X9_holds (l : Launch) (G : GG) (ad : Nat → Nat) (sz : Nat) (d_ad : Pic) (dw : Int64) (x1 : Int32) (out : Int32 × Pic) (hf : f_X9_holds d_ad x1 = some out) : Met l yX9_holds (.code yX9_holds cX9_holds 4 (some .int) :: BT) ({ frames := 6, cells := 0, slots := 0, locals := 136 }) (va_Pc [.ref (ad 99), .int x1] (PreW G sz (dO G ad d_ad dw ++ []))) (Ans G out.1 (va_A (dO G ad d_ad dw ++ []) sz) (dO G ad out.2 dw ++ [])) 0 0 (va_A (dO G ad d_ad dw ++ []) sz) := by
  refine Met.into (by decide) (Nat.le_of_ble_eq_true rfl) ?_
  intro p e s m below meth c C hsz ls hl hw
  have hl : lv_has ls 4 [(0, .ref (ad 99)), (1, .int x1)] := hl
  clear hsz
  generalize va_A (dO G ad d_ad dw ++ []) sz = A at hw ⊢
  have hB_68 : ∀ (d_ad : Pic) (t0 : Int32), b_X9_holds_68 x1  d_ad t0 = some out → ∀ (H : Heap) (locs : List Loc), Wd G A s H locs (dO G ad d_ad dw ++ []) → ∀ ls : Array Slot, lv_has ls 4 [] → W p l e ({ frames := 6, cells := 0, slots := 0, locals := 136 }) s m [.ref (ad 99), .int x1].toArray below meth c H locs 0 0 (MQ below (Ans G out.1 A (dO G ad out.2 dw ++ [])) [.ref (ad 99), .int x1].toArray s 0 0 A) (F0 m 68 ls [.int t0, .ref (ad 99)]) := by
    intro d_ad t0 hf H locs hw ls hl
    unfold b_X9_holds_68 at hf
    obtain ⟨u6, e6, hf⟩ := bx hf
    refine r_callVi (ws' := (dO G ad u6.2 dw ++ [])) (As := [.int t0]) (rest := []) C hw hl.1 kX9_good ml_X9_222 (c_X9_good l G ad _ d_ad dw t0 u6 e6) (CutX.take dO_f CutX.none) _ (gx_h dO_o) rfl ⟨rfl, rfl⟩ ⟨Nat.le_of_ble_eq_true rfl, Nat.le_of_ble_eq_true rfl⟩ rfl ⟨Nat.zero_le _, Nat.zero_le _⟩ rfl (Nat.le_of_ble_eq_true rfl) dX9_holds_68 (fun H locs hw => ?_)
    exact fin_i C hw (Option.some.inj hf) (fun o => o.1) (fun o => (dO G ad o.2 dw ++ [])) rfl rfl dX9_holds_71
  have hB_63 : ∀ (d_ad : Pic), b_X9_holds_63 x1  d_ad = some out → ∀ (H : Heap) (locs : List Loc), Wd G A s H locs (dO G ad d_ad dw ++ []) → ∀ ls : Array Slot, lv_has ls 4 [] → W p l e ({ frames := 6, cells := 0, slots := 0, locals := 136 }) s m [.ref (ad 99), .int x1].toArray below meth c H locs 0 0 (MQ below (Ans G out.1 A (dO G ad out.2 dw ++ [])) [.ref (ad 99), .int x1].toArray s 0 0 A) (F0 m 63 ls [.ref (ad 99)]) := by
    intro d_ad hf H locs hw ls hl
    unfold b_X9_holds_63 at hf
    refine lv_iconst (v := 1) C.1 C.2.1 dX9_holds_63 (by decide) ?_
    refine lv_goto (tgt := 68) C.1 C.2.1 dX9_holds_64 (by decide) ?_
    exact hB_68  d_ad 1 hf _ _ hw _ (lv_sub hl [] rfl)
  have hB_49 : ∀ (d_ad : Pic) (v2 : Int32) (t0 : Int32), b_X9_holds_49 x1  d_ad v2 t0 = some out → ∀ (H : Heap) (locs : List Loc), Wd G A s H locs (dO G ad d_ad dw ++ []) → ∀ ls : Array Slot, lv_has ls 4 [(0, .ref (ad 99)), (2, .int v2)] → W p l e ({ frames := 6, cells := 0, slots := 0, locals := 136 }) s m [.ref (ad 99), .int x1].toArray below meth c H locs 0 0 (MQ below (Ans G out.1 A (dO G ad out.2 dw ++ [])) [.ref (ad 99), .int x1].toArray s 0 0 A) (F0 m 49 ls [.int t0]) := by
    intro d_ad v2 t0 hf H locs hw ls hl
    unfold b_X9_holds_49 at hf
    refine r_istore0 C hl [(3, .int t0), (0, .ref (ad 99)), (2, .int v2)] (by decide) rfl dX9_holds_49 (fun ls hl => ?_)
    refine r_aload0 C hl 1 rfl dX9_holds_50 ?_
    obtain ⟨u5, e5, hf⟩ := bx hf
    refine r_callVv (ws' := (dO G ad u5 dw ++ [])) (As := []) (rest := []) C hw hl.1 kX9_bringsBack ml_X9_401 (c_X9_bringsBack l G ad _ d_ad dw u5 e5) (CutX.take dO_f CutX.none) _ (gx_h dO_o) rfl ⟨rfl, rfl⟩ ⟨Nat.le_of_ble_eq_true rfl, Nat.le_of_ble_eq_true rfl⟩ rfl ⟨Nat.zero_le _, Nat.zero_le _⟩ rfl (Nat.le_of_ble_eq_true rfl) dX9_holds_51 (fun H locs hw => ?_)
    refine r_aload0 C hl 1 rfl dX9_holds_54 ?_
    refine r_iload0 C hl 2 rfl dX9_holds_55 ?_
    refine lv_if_eq (tgt := 63) C.1 C.2.1 dX9_holds_56 (by decide) (fun hc => ?_) (fun hc => ?_)
    · replace hf := ifp hf hc
      exact hB_63  u5 hf _ _ hw _ (lv_sub hl [] rfl)
    · replace hf := ifn hf hc
      refine r_iload0 C hl 0 rfl dX9_holds_59 ?_
      refine lv_if_eq (tgt := 67) C.1 C.2.1 dX9_holds_60 (by decide) (fun hc => ?_) (fun hc => ?_)
      · replace hf := ifp hf hc
        refine r_iload0 C hl 2 rfl dX9_holds_67 ?_
        exact hB_68  u5 v2 hf _ _ hw _ (lv_sub hl [] rfl)
      · replace hf := ifn hf hc
        exact hB_63  u5 hf _ _ hw _ (lv_sub hl [] rfl)
  have hB_31 : ∀ (d_ad : Pic), b_X9_holds_31 x1  d_ad = some out → ∀ (H : Heap) (locs : List Loc), Wd G A s H locs (dO G ad d_ad dw ++ []) → ∀ ls : Array Slot, lv_has ls 4 [(0, .ref (ad 99))] → W p l e ({ frames := 6, cells := 0, slots := 0, locals := 136 }) s m [.ref (ad 99), .int x1].toArray below meth c H locs 0 0 (MQ below (Ans G out.1 A (dO G ad out.2 dw ++ [])) [.ref (ad 99), .int x1].toArray s 0 0 A) (F0 m 31 ls []) := by
    intro d_ad hf H locs hw ls hl
    unfold b_X9_holds_31 at hf
    refine r_aload0 C hl 0 rfl dX9_holds_31 ?_
    obtain ⟨u3, e3, hf⟩ := bx hf
    refine r_callVi (ws' := (dO G ad d_ad dw ++ [])) (As := []) (rest := []) C hw hl.1 kX9_framesNow ml_X9_356 (c_X9_framesNow l G ad _ d_ad dw u3 e3) (CutX.take dO_f CutX.none) _ (gx_h dO_o) rfl ⟨rfl, rfl⟩ ⟨Nat.le_of_ble_eq_true rfl, Nat.le_of_ble_eq_true rfl⟩ rfl ⟨Nat.zero_le _, Nat.zero_le _⟩ rfl (Nat.le_of_ble_eq_true rfl) dX9_holds_32 (fun H locs hw => ?_)
    refine r_istore0 C hl [(2, .int u3), (0, .ref (ad 99))] (by decide) rfl dX9_holds_35 (fun ls hl => ?_)
    refine r_aload0 C hl 1 rfl dX9_holds_36 ?_
    obtain ⟨u4, e4, hf⟩ := bx hf
    refine r_callVi (ws' := (dO G ad d_ad dw ++ [])) (As := []) (rest := []) C hw hl.1 kX9_coldestFree ml_X9_337 (c_X9_coldestFree l G ad _ d_ad dw u4 e4) (CutX.take dO_f CutX.none) _ (gx_h dO_o) rfl ⟨rfl, rfl⟩ ⟨Nat.le_of_ble_eq_true rfl, Nat.le_of_ble_eq_true rfl⟩ rfl ⟨Nat.zero_le _, Nat.zero_le _⟩ rfl (Nat.le_of_ble_eq_true rfl) dX9_holds_37 (fun H locs hw => ?_)
    refine lv_iconst (v := (-1)) C.1 C.2.1 dX9_holds_40 (by decide) ?_
    refine lv_icmp_ne (tgt := 48) C.1 C.2.1 dX9_holds_41 (by decide) (fun hc => ?_) (fun hc => ?_)
    · replace hf := ifn hf hc
      refine lv_iconst (v := 0) C.1 C.2.1 dX9_holds_48 (by decide) ?_
      exact hB_49  d_ad u3 0 hf _ _ hw _ (lv_sub hl [1, 0] rfl)
    · replace hf := ifp hf hc
      refine lv_iconst (v := 1) C.1 C.2.1 dX9_holds_44 (by decide) ?_
      refine lv_goto (tgt := 49) C.1 C.2.1 dX9_holds_45 (by decide) ?_
      exact hB_49  d_ad u3 1 hf _ _ hw _ (lv_sub hl [1, 0] rfl)
  unfold f_X9_holds at hf
  refine r_aload0 C hl 0 rfl dX9_holds_0 ?_
  refine lv_iconst (v := 0) C.1 C.2.1 dX9_holds_1 (by decide) ?_
  obtain ⟨d_ad1, e1, hf⟩ := bx hf
  refine r_put C hw _ (gx_h dO_o) 0 fp_X9_75 rfl rfl (Nat.le_of_ble_eq_true rfl) (dO G ad d_ad1 dw ++ []) (sx_h dO_o (dO_p0 e1)) dX9_holds_2 (fun H locs hw => ?_)
  refine r_aload0 C hl 0 rfl dX9_holds_5 ?_
  refine r_get C hw _ (gx_h dO_o) 19 fl_X9_225 rfl dX9_holds_6 ?_
  refine lv_if_ne (tgt := 18) C.1 C.2.1 dX9_holds_9 (by decide) (fun hc => ?_) (fun hc => ?_)
  · replace hf := ifn hf hc
    refine r_aload0 C hl 0 rfl dX9_holds_18 ?_
    obtain ⟨u2, e2, hf⟩ := bx hf
    refine r_callVv (ws' := (dO G ad u2 dw ++ [])) (As := []) (rest := []) C hw hl.1 kX9_keepsAside ml_X9_395 (c_X9_keepsAside l G ad _ d_ad1 dw u2 e2) (CutX.take dO_f CutX.none) _ (gx_h dO_o) rfl ⟨rfl, rfl⟩ ⟨Nat.le_of_ble_eq_true rfl, Nat.le_of_ble_eq_true rfl⟩ rfl ⟨Nat.zero_le _, Nat.zero_le _⟩ rfl (Nat.le_of_ble_eq_true rfl) dX9_holds_19 (fun H locs hw => ?_)
    refine r_iload0 C hl 1 rfl dX9_holds_22 ?_
    refine lv_if_eq (tgt := 31) C.1 C.2.1 dX9_holds_23 (by decide) (fun hc => ?_) (fun hc => ?_)
    · replace hf := ifp hf hc
      exact hB_31  u2 hf _ _ hw _ (lv_sub hl [0] rfl)
    · replace hf := ifn hf hc
      refine r_aload0 C hl 0 rfl dX9_holds_26 ?_
      obtain ⟨u7, e7, hf⟩ := bx hf
      refine r_callVi (ws' := (dO G ad u7.2 dw ++ [])) (As := []) (rest := []) C hw hl.1 kX9_compacts ml_X9_398 (c_X9_compacts l G ad _ u2 dw u7 e7) (CutX.take dO_f CutX.none) _ (gx_h dO_o) rfl ⟨rfl, rfl⟩ ⟨Nat.le_of_ble_eq_true rfl, Nat.le_of_ble_eq_true rfl⟩ rfl ⟨Nat.zero_le _, Nat.zero_le _⟩ rfl (Nat.le_of_ble_eq_true rfl) dX9_holds_27 (fun H locs hw => ?_)
      refine lv_pop C.1 C.2.1 dX9_holds_30 rfl ?_
      exact hB_31  u7.2 hf _ _ hw _ (lv_sub hl [0] rfl)
  · replace hf := ifp hf hc
    refine r_aload0 C hl 0 rfl dX9_holds_12 ?_
    refine lv_iconst (v := 1) C.1 C.2.1 dX9_holds_13 (by decide) ?_
    obtain ⟨u8, e8, hf⟩ := bx hf
    refine r_callVi (ws' := (dO G ad u8.2 dw ++ [])) (As := [.int 1]) (rest := []) C hw hl.1 kX9_refused ml_X9_210 (c_X9_refused l G ad _ d_ad1 dw 1 u8 e8) (CutX.take dO_f CutX.none) _ (gx_h dO_o) rfl ⟨rfl, rfl⟩ ⟨Nat.le_of_ble_eq_true rfl, Nat.le_of_ble_eq_true rfl⟩ rfl ⟨Nat.zero_le _, Nat.zero_le _⟩ rfl (Nat.le_of_ble_eq_true rfl) dX9_holds_14 (fun H locs hw => ?_)
    exact fin_i C hw (Option.some.inj hf) (fun o => o.1) (fun o => (dO G ad o.2 dw ++ [])) rfl rfl dX9_holds_17
set_option maxHeartbeats 4000000 in
set_option maxRecDepth 100000 in
theorem c_X9_freeing (l : Launch) (G : GG) (ad : Nat → Nat) (sz : Nat) (d_ad : Pic) (dw : Int64)  (out : Int32 × Pic) (hf : f_X9_freeing d_ad = some out) : Met l yX9_freeing (.code yX9_freeing cX9_freeing 4 (some .int) :: BT) ({ frames := 4, cells := 0, slots := 0, locals := 87 }) (va_Pc [.ref (ad 99)] (PreW G sz (dO G ad d_ad dw ++ []))) (Ans G out.1 (va_A (dO G ad d_ad dw ++ []) sz) (dO G ad out.2 dw ++ [])) 0 0 (va_A (dO G ad d_ad dw ++ []) sz) := by
  refine Met.into (by decide) (Nat.le_of_ble_eq_true rfl) ?_
  intro p e s m below meth c C hsz ls hl hw
  have hl : lv_has ls 4 [(0, .ref (ad 99))] := hl
  clear hsz
  generalize va_A (dO G ad d_ad dw ++ []) sz = A at hw ⊢
  have hB_85 : ∀ (d_ad : Pic) (t0 : Int32), b_X9_freeing_85   d_ad t0 = some out → ∀ (H : Heap) (locs : List Loc), Wd G A s H locs (dO G ad d_ad dw ++ []) → ∀ ls : Array Slot, lv_has ls 4 [] → W p l e ({ frames := 4, cells := 0, slots := 0, locals := 87 }) s m [.ref (ad 99)].toArray below meth c H locs 0 0 (MQ below (Ans G out.1 A (dO G ad out.2 dw ++ [])) [.ref (ad 99)].toArray s 0 0 A) (F0 m 85 ls [.int t0, .ref (ad 99)]) := by
    intro d_ad t0 hf H locs hw ls hl
    unfold b_X9_freeing_85 at hf
    obtain ⟨u7, e7, hf⟩ := bx hf
    refine r_callVi (ws' := (dO G ad u7.2 dw ++ [])) (As := [.int t0]) (rest := []) C hw hl.1 kX9_good ml_X9_222 (c_X9_good l G ad _ d_ad dw t0 u7 e7) (CutX.take dO_f CutX.none) _ (gx_h dO_o) rfl ⟨rfl, rfl⟩ ⟨Nat.le_of_ble_eq_true rfl, Nat.le_of_ble_eq_true rfl⟩ rfl ⟨Nat.zero_le _, Nat.zero_le _⟩ rfl (Nat.le_of_ble_eq_true rfl) dX9_freeing_85 (fun H locs hw => ?_)
    exact fin_i C hw (Option.some.inj hf) (fun o => o.1) (fun o => (dO G ad o.2 dw ++ [])) rfl rfl dX9_freeing_88
  have hB_69 : ∀ (d_ad : Pic) (v2 : Int32) (t0 : Int32), b_X9_freeing_69   d_ad v2 t0 = some out → ∀ (H : Heap) (locs : List Loc), Wd G A s H locs (dO G ad d_ad dw ++ []) → ∀ ls : Array Slot, lv_has ls 4 [(0, .ref (ad 99)), (2, .int v2)] → W p l e ({ frames := 4, cells := 0, slots := 0, locals := 87 }) s m [.ref (ad 99)].toArray below meth c H locs 0 0 (MQ below (Ans G out.1 A (dO G ad out.2 dw ++ [])) [.ref (ad 99)].toArray s 0 0 A) (F0 m 69 ls [.int t0]) := by
    intro d_ad v2 t0 hf H locs hw ls hl
    unfold b_X9_freeing_69 at hf
    refine r_istore0 C hl [(3, .int t0), (0, .ref (ad 99)), (2, .int v2)] (by decide) rfl dX9_freeing_69 (fun ls hl => ?_)
    refine r_aload0 C hl 1 rfl dX9_freeing_70 ?_
    obtain ⟨u6, e6, hf⟩ := bx hf
    refine r_callVv (ws' := (dO G ad u6 dw ++ [])) (As := []) (rest := []) C hw hl.1 kX9_bringsBack ml_X9_401 (c_X9_bringsBack l G ad _ d_ad dw u6 e6) (CutX.take dO_f CutX.none) _ (gx_h dO_o) rfl ⟨rfl, rfl⟩ ⟨Nat.le_of_ble_eq_true rfl, Nat.le_of_ble_eq_true rfl⟩ rfl ⟨Nat.zero_le _, Nat.zero_le _⟩ rfl (Nat.le_of_ble_eq_true rfl) dX9_freeing_71 (fun H locs hw => ?_)
    refine r_aload0 C hl 1 rfl dX9_freeing_74 ?_
    refine r_iload0 C hl 0 rfl dX9_freeing_75 ?_
    refine lv_if_eq (tgt := 83) C.1 C.2.1 dX9_freeing_76 (by decide) (fun hc => ?_) (fun hc => ?_)
    · replace hf := ifp hf hc
      refine lv_bipush (v := (-2)) C.1 C.2.1 dX9_freeing_83 (by decide) ?_
      exact hB_85  u6 (-2) hf _ _ hw _ (lv_sub hl [] rfl)
    · replace hf := ifn hf hc
      refine r_iload0 C hl 2 rfl dX9_freeing_79 ?_
      refine lv_goto (tgt := 85) C.1 C.2.1 dX9_freeing_80 (by decide) ?_
      exact hB_85  u6 v2 hf _ _ hw _ (lv_sub hl [] rfl)
  have hB_56 : ∀ (d_ad : Pic) (v1 : Int32) (v2 : Int32), b_X9_freeing_56   d_ad v1 v2 = some out → ∀ (H : Heap) (locs : List Loc), Wd G A s H locs (dO G ad d_ad dw ++ []) → ∀ ls : Array Slot, lv_has ls 4 [(0, .ref (ad 99)), (1, .int v1), (2, .int v2)] → W p l e ({ frames := 4, cells := 0, slots := 0, locals := 87 }) s m [.ref (ad 99)].toArray below meth c H locs 0 0 (MQ below (Ans G out.1 A (dO G ad out.2 dw ++ [])) [.ref (ad 99)].toArray s 0 0 A) (F0 m 56 ls []) := by
    intro d_ad v1 v2 hf H locs hw ls hl
    unfold b_X9_freeing_56 at hf
    refine r_aload0 C hl 0 rfl dX9_freeing_56 ?_
    obtain ⟨u5, e5, hf⟩ := bx hf
    refine r_callVi (ws' := (dO G ad d_ad dw ++ [])) (As := []) (rest := []) C hw hl.1 kX9_framesNow ml_X9_356 (c_X9_framesNow l G ad _ d_ad dw u5 e5) (CutX.take dO_f CutX.none) _ (gx_h dO_o) rfl ⟨rfl, rfl⟩ ⟨Nat.le_of_ble_eq_true rfl, Nat.le_of_ble_eq_true rfl⟩ rfl ⟨Nat.zero_le _, Nat.zero_le _⟩ rfl (Nat.le_of_ble_eq_true rfl) dX9_freeing_57 (fun H locs hw => ?_)
    refine r_iload0 C hl 1 rfl dX9_freeing_60 ?_
    refine lv_icmp_ge (tgt := 68) C.1 C.2.1 dX9_freeing_61 (by decide) (fun hc => ?_) (fun hc => ?_)
    · replace hf := ifp hf hc
      refine lv_iconst (v := 0) C.1 C.2.1 dX9_freeing_68 (by decide) ?_
      exact hB_69  d_ad v2 0 hf _ _ hw _ (lv_sub hl [0, 2] rfl)
    · replace hf := ifn hf hc
      refine lv_iconst (v := 1) C.1 C.2.1 dX9_freeing_64 (by decide) ?_
      refine lv_goto (tgt := 69) C.1 C.2.1 dX9_freeing_65 (by decide) ?_
      exact hB_69  d_ad v2 1 hf _ _ hw _ (lv_sub hl [0, 2] rfl)
  have hB_29 : ∀ (k29 : Pic → Int32 → Int32 → Option (Int32 × Pic)) (hk29 : ∀ (d_ad : Pic) (v1 : Int32) (v2 : Int32), k29 d_ad v1 v2 = some out → ∀ (H : Heap) (locs : List Loc), Wd G A s H locs (dO G ad d_ad dw ++ []) → ∀ ls : Array Slot, lv_has ls 4 [(0, .ref (ad 99)), (1, .int v1), (2, .int v2)] → W p l e ({ frames := 4, cells := 0, slots := 0, locals := 87 }) s m [.ref (ad 99)].toArray below meth c H locs 0 0 (MQ below (Ans G out.1 A (dO G ad out.2 dw ++ [])) [.ref (ad 99)].toArray s 0 0 A) (F0 m 29 ls [])), ∀ (d_ad : Pic) (v1 : Int32) (v2 : Int32), b_X9_freeing_29  k29 d_ad v1 v2 = some out → ∀ (H : Heap) (locs : List Loc), Wd G A s H locs (dO G ad d_ad dw ++ []) → ∀ ls : Array Slot, lv_has ls 4 [(0, .ref (ad 99)), (1, .int v1), (2, .int v2)] → W p l e ({ frames := 4, cells := 0, slots := 0, locals := 87 }) s m [.ref (ad 99)].toArray below meth c H locs 0 0 (MQ below (Ans G out.1 A (dO G ad out.2 dw ++ [])) [.ref (ad 99)].toArray s 0 0 A) (F0 m 29 ls []) := by
    intro k29 hk29 d_ad v1 v2 hf H locs hw ls hl
    unfold b_X9_freeing_29 at hf
    refine r_aload0 C hl 0 rfl dX9_freeing_29 ?_
    obtain ⟨u4, e4, hf⟩ := bx hf
    refine r_callVi (ws' := (dO G ad d_ad dw ++ [])) (As := []) (rest := []) C hw hl.1 kX9_framesNow ml_X9_356 (c_X9_framesNow l G ad _ d_ad dw u4 e4) (CutX.take dO_f CutX.none) _ (gx_h dO_o) rfl ⟨rfl, rfl⟩ ⟨Nat.le_of_ble_eq_true rfl, Nat.le_of_ble_eq_true rfl⟩ rfl ⟨Nat.zero_le _, Nat.zero_le _⟩ rfl (Nat.le_of_ble_eq_true rfl) dX9_freeing_30 (fun H locs hw => ?_)
    refine r_iload0 C hl 1 rfl dX9_freeing_33 ?_
    refine lv_icmp_ne (tgt := 56) C.1 C.2.1 dX9_freeing_34 (by decide) (fun hc => ?_) (fun hc => ?_)
    · replace hf := ifn hf hc
      exact hB_56  d_ad v1 v2 hf _ _ hw _ (lv_sub hl [0, 1, 2] rfl)
    · replace hf := ifp hf hc
      refine r_aload0 C hl 0 rfl dX9_freeing_37 ?_
      obtain ⟨u8, e8, hf⟩ := bx hf
      refine r_callVi (ws' := (dO G ad d_ad dw ++ [])) (As := []) (rest := []) C hw hl.1 kX9_coldestFree ml_X9_337 (c_X9_coldestFree l G ad _ d_ad dw u8 e8) (CutX.take dO_f CutX.none) _ (gx_h dO_o) rfl ⟨rfl, rfl⟩ ⟨Nat.le_of_ble_eq_true rfl, Nat.le_of_ble_eq_true rfl⟩ rfl ⟨Nat.zero_le _, Nat.zero_le _⟩ rfl (Nat.le_of_ble_eq_true rfl) dX9_freeing_38 (fun H locs hw => ?_)
      refine lv_iconst (v := (-1)) C.1 C.2.1 dX9_freeing_41 (by decide) ?_
      refine lv_icmp_eq (tgt := 56) C.1 C.2.1 dX9_freeing_42 (by decide) (fun hc => ?_) (fun hc => ?_)
      · replace hf := ifp hf hc
        exact hB_56  d_ad v1 v2 hf _ _ hw _ (lv_sub hl [0, 1, 2] rfl)
      · replace hf := ifn hf hc
        refine r_aload0 C hl 0 rfl dX9_freeing_45 ?_
        obtain ⟨u9, e9, hf⟩ := bx hf
        refine r_callVi (ws' := (dO G ad u9.2 dw ++ [])) (As := []) (rest := []) C hw hl.1 kX9_writesColdest ml_X9_362 (c_X9_writesColdest l G ad _ d_ad dw u9 e9) (CutX.take dO_f CutX.none) _ (gx_h dO_o) rfl ⟨rfl, rfl⟩ ⟨Nat.le_of_ble_eq_true rfl, Nat.le_of_ble_eq_true rfl⟩ rfl ⟨Nat.zero_le _, Nat.zero_le _⟩ rfl (Nat.le_of_ble_eq_true rfl) dX9_freeing_46 (fun H locs hw => ?_)
        refine lv_pop C.1 C.2.1 dX9_freeing_49 rfl ?_
        refine r_iinc C hl 2 (v2 + 1) [(2, .int (v2 + 1)), (0, .ref (ad 99)), (1, .int v1)] rfl (iinc_e (by decide)) (by decide) rfl dX9_freeing_50 (fun ls hl => ?_)
        refine lv_goto (tgt := 29) C.1 C.2.1 dX9_freeing_53 (by decide) ?_
        exact hk29 u9.2 v1 (v2 + 1) hf _ _ hw _ (lv_sub hl [1, 2, 0] rfl)
  have hL_29 : ∀ n : Nat, ∀ (d_ad : Pic) (v1 : Int32) (v2 : Int32), L_X9_freeing_29   n d_ad v1 v2 = some out → ∀ (H : Heap) (locs : List Loc), Wd G A s H locs (dO G ad d_ad dw ++ []) → ∀ ls : Array Slot, lv_has ls 4 [(0, .ref (ad 99)), (1, .int v1), (2, .int v2)] → W p l e ({ frames := 4, cells := 0, slots := 0, locals := 87 }) s m [.ref (ad 99)].toArray below meth c H locs 0 0 (MQ below (Ans G out.1 A (dO G ad out.2 dw ++ [])) [.ref (ad 99)].toArray s 0 0 A) (F0 m 29 ls []) := by
    intro  n
    induction n with
    | zero => intro d_ad v1 v2 hf; cases hf
    | succ n ih => exact hB_29 _ ih
  unfold f_X9_freeing at hf
  refine r_aload0 C hl 0 rfl dX9_freeing_0 ?_
  refine lv_iconst (v := 0) C.1 C.2.1 dX9_freeing_1 (by decide) ?_
  obtain ⟨d_ad1, e1, hf⟩ := bx hf
  refine r_put C hw _ (gx_h dO_o) 0 fp_X9_75 rfl rfl (Nat.le_of_ble_eq_true rfl) (dO G ad d_ad1 dw ++ []) (sx_h dO_o (dO_p0 e1)) dX9_freeing_2 (fun H locs hw => ?_)
  refine r_aload0 C hl 0 rfl dX9_freeing_5 ?_
  refine r_get C hw _ (gx_h dO_o) 19 fl_X9_225 rfl dX9_freeing_6 ?_
  refine lv_if_ne (tgt := 18) C.1 C.2.1 dX9_freeing_9 (by decide) (fun hc => ?_) (fun hc => ?_)
  · replace hf := ifn hf hc
    refine r_aload0 C hl 0 rfl dX9_freeing_18 ?_
    obtain ⟨u2, e2, hf⟩ := bx hf
    refine r_callVv (ws' := (dO G ad u2 dw ++ [])) (As := []) (rest := []) C hw hl.1 kX9_keepsAside ml_X9_395 (c_X9_keepsAside l G ad _ d_ad1 dw u2 e2) (CutX.take dO_f CutX.none) _ (gx_h dO_o) rfl ⟨rfl, rfl⟩ ⟨Nat.le_of_ble_eq_true rfl, Nat.le_of_ble_eq_true rfl⟩ rfl ⟨Nat.zero_le _, Nat.zero_le _⟩ rfl (Nat.le_of_ble_eq_true rfl) dX9_freeing_19 (fun H locs hw => ?_)
    refine r_aload0 C hl 0 rfl dX9_freeing_22 ?_
    obtain ⟨u3, e3, hf⟩ := bx hf
    refine r_callVi (ws' := (dO G ad u2 dw ++ [])) (As := []) (rest := []) C hw hl.1 kX9_framesNow ml_X9_356 (c_X9_framesNow l G ad _ u2 dw u3 e3) (CutX.take dO_f CutX.none) _ (gx_h dO_o) rfl ⟨rfl, rfl⟩ ⟨Nat.le_of_ble_eq_true rfl, Nat.le_of_ble_eq_true rfl⟩ rfl ⟨Nat.zero_le _, Nat.zero_le _⟩ rfl (Nat.le_of_ble_eq_true rfl) dX9_freeing_23 (fun H locs hw => ?_)
    refine r_istore0 C hl [(1, .int u3), (0, .ref (ad 99))] (by decide) rfl dX9_freeing_26 (fun ls hl => ?_)
    refine lv_iconst (v := 0) C.1 C.2.1 dX9_freeing_27 (by decide) ?_
    refine r_istore0 C hl [(2, .int 0), (1, .int u3), (0, .ref (ad 99))] (by decide) rfl dX9_freeing_28 (fun ls hl => ?_)
    exact hL_29  FU u2 u3 0 hf _ _ hw _ (lv_sub hl [2, 1, 0] rfl)
  · replace hf := ifp hf hc
    refine r_aload0 C hl 0 rfl dX9_freeing_12 ?_
    refine lv_iconst (v := 1) C.1 C.2.1 dX9_freeing_13 (by decide) ?_
    obtain ⟨u10, e10, hf⟩ := bx hf
    refine r_callVi (ws' := (dO G ad u10.2 dw ++ [])) (As := [.int 1]) (rest := []) C hw hl.1 kX9_refused ml_X9_210 (c_X9_refused l G ad _ d_ad1 dw 1 u10 e10) (CutX.take dO_f CutX.none) _ (gx_h dO_o) rfl ⟨rfl, rfl⟩ ⟨Nat.le_of_ble_eq_true rfl, Nat.le_of_ble_eq_true rfl⟩ rfl ⟨Nat.zero_le _, Nat.zero_le _⟩ rfl (Nat.le_of_ble_eq_true rfl) dX9_freeing_14 (fun H locs hw => ?_)
    exact fin_i C hw (Option.some.inj hf) (fun o => o.1) (fun o => (dO G ad o.2 dw ++ [])) rfl rfl dX9_freeing_17
