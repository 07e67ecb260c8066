set_option maxHeartbeats 4000000 in
set_option maxRecDepth 100000 in
theorem c_X9_sizes (l : Launch) (G : GG) (ad : Nat → Nat) (sz : Nat) (d_ad : Pic) (dw : Int64) (x1 : Int32) (x2 : Int32) (out : Int32 × Pic) (hf : f_X9_sizes d_ad x1 x2 = some out) : Met l yX9_sizes (.code yX9_sizes cX9_sizes 3 (some .int) :: BT) ({ frames := 3, cells := 0, slots := 0, locals := 67 }) (va_Pc [.ref (ad 99), .int x1, .int x2] (PreW G sz (dO G ad d_ad dw ++ []))) (Ans G out.1 (va_A (dO G ad d_ad dw ++ []) sz) (dO G ad out.2 dw ++ [])) 0 0 (va_A (dO G ad d_ad dw ++ []) sz) := by
  refine Met.into (by decide) (Nat.le_of_ble_eq_true rfl) ?_
  intro p e s m below meth c C hsz ls hl hw
  have hl : lv_has ls 3 [(0, .ref (ad 99)), (1, .int x1), (2, .int x2)] := hl
  clear hsz
  generalize va_A (dO G ad d_ad dw ++ []) sz = A at hw ⊢
  have hB_22 : ∀ (d_ad : Pic), b_X9_sizes_22 x1 x2  d_ad = some out → ∀ (H : Heap) (locs : List Loc), Wd G A s H locs (dO G ad d_ad dw ++ []) → ∀ ls : Array Slot, lv_has ls 3 [(0, .ref (ad 99))] → W p l e ({ frames := 3, cells := 0, slots := 0, locals := 67 }) s m [.ref (ad 99), .int x1, .int x2].toArray below meth c H locs 0 0 (MQ below (Ans G out.1 A (dO G ad out.2 dw ++ [])) [.ref (ad 99), .int x1, .int x2].toArray s 0 0 A) (F0 m 22 ls []) := by
    intro d_ad hf H locs hw ls hl
    unfold b_X9_sizes_22 at hf
    refine r_aload0 C hl 0 rfl dX9_sizes_22 ?_
    refine lv_iconst (v := 1) C.1 C.2.1 dX9_sizes_23 (by decide) ?_
    obtain ⟨u3, e3, hf⟩ := bx hf
    refine r_callVi (ws' := (dO G ad u3.2 dw ++ [])) (As := [.int 1]) (rest := []) C hw hl.1 kX9_refused ml_X9_210 (c_X9_refused l G ad _ d_ad dw 1 u3 e3) (CutX.take dO_f CutX.none) _ (gx_h dO_o) rfl ⟨rfl, rfl⟩ ⟨Nat.le_of_ble_eq_true rfl, Nat.le_of_ble_eq_true rfl⟩ rfl ⟨Nat.zero_le _, Nat.zero_le _⟩ rfl (Nat.le_of_ble_eq_true rfl) dX9_sizes_24 (fun H locs hw => ?_)
    exact fin_i C hw (Option.some.inj hf) (fun o => o.1) (fun o => (dO G ad o.2 dw ++ [])) rfl rfl dX9_sizes_27
  unfold f_X9_sizes at hf
  refine r_aload0 C hl 0 rfl dX9_sizes_0 ?_
  refine lv_iconst (v := 0) C.1 C.2.1 dX9_sizes_1 (by decide) ?_
  obtain ⟨d_ad1, e1, hf⟩ := bx hf
  refine r_put C hw _ (gx_h dO_o) 0 fp_X9_75 rfl rfl (Nat.le_of_ble_eq_true rfl) (dO G ad d_ad1 dw ++ []) (sx_h dO_o (dO_p0 e1)) dX9_sizes_2 (fun H locs hw => ?_)
  refine r_aload0 C hl 0 rfl dX9_sizes_5 ?_
  refine r_iload0 C hl 1 rfl dX9_sizes_6 ?_
  obtain ⟨u2, e2, hf⟩ := bx hf
  refine r_callVi (ws' := (dO G ad d_ad1 dw ++ [])) (As := [.int x1]) (rest := []) C hw hl.1 kX9_isClass ml_X9_292 (c_X9_isClass l G ad _ d_ad1 dw x1 u2 e2) (CutX.take dO_f CutX.none) _ (gx_h dO_o) rfl ⟨rfl, rfl⟩ ⟨Nat.le_of_ble_eq_true rfl, Nat.le_of_ble_eq_true rfl⟩ rfl ⟨Nat.zero_le _, Nat.zero_le _⟩ rfl (Nat.le_of_ble_eq_true rfl) dX9_sizes_7 (fun H locs hw => ?_)
  refine lv_if_eq (tgt := 22) C.1 C.2.1 dX9_sizes_10 (by decide) (fun hc => ?_) (fun hc => ?_)
  · replace hf := ifp hf hc
    exact hB_22  d_ad1 hf _ _ hw _ (lv_sub hl [0] rfl)
  · replace hf := ifn hf hc
    refine r_iload0 C hl 2 rfl dX9_sizes_13 ?_
    refine lv_iconst (v := 0) C.1 C.2.1 dX9_sizes_14 (by decide) ?_
    refine lv_iconst (v := 4) C.1 C.2.1 dX9_sizes_15 (by decide) ?_
    obtain ⟨u4, e4, hf⟩ := bx hf
    refine r_callSi (ws' := (dO G ad d_ad1 dw ++ [])) (As := [.int x2, .int 0, .int 4]) (rest := []) C hw hl.1 kX9_in ml_X9_100 (c_X9_in l G _ x2 0 4 u4 e4) CutX.none ⟨rfl, rfl⟩ ⟨Nat.le_of_ble_eq_true rfl, Nat.le_of_ble_eq_true rfl⟩ rfl ⟨Nat.zero_le _, Nat.zero_le _⟩ rfl (Nat.le_of_ble_eq_true rfl) dX9_sizes_16 (fun H locs hw => ?_)
    refine lv_if_ne (tgt := 28) C.1 C.2.1 dX9_sizes_19 (by decide) (fun hc => ?_) (fun hc => ?_)
    · replace hf := ifn hf hc
      refine r_iload0 C hl 2 rfl dX9_sizes_28 ?_
      rcases Decidable.em (x2 = 0) with hc | h0_
      · replace hf := ifp hf hc
        refine lv_tableIn (tgt := 60) C.1 C.2.1 dX9_sizes_29 (by rw [hc]; decide) (by rw [hc]; decide) (by rw [hc]; rfl) (by decide) ?_
        refine r_aload0 C hl 0 rfl dX9_sizes_60 ?_
        refine r_iload0 C hl 1 rfl dX9_sizes_61 ?_
        obtain ⟨u14, e14, hf⟩ := bx hf
        refine r_callSi (ws' := (dO G ad d_ad1 dw ++ [])) (As := [.int x1]) (rest := [.ref (ad 99)]) C hw hl.1 kX9_framesOf ml_X9_286 (c_X9_framesOf l G _ x1 u14 e14) CutX.none ⟨rfl, rfl⟩ ⟨Nat.le_of_ble_eq_true rfl, Nat.le_of_ble_eq_true rfl⟩ rfl ⟨Nat.zero_le _, Nat.zero_le _⟩ rfl (Nat.le_of_ble_eq_true rfl) dX9_sizes_62 (fun H locs hw => ?_)
        obtain ⟨u15, e15, hf⟩ := bx hf
        refine r_callVi (ws' := (dO G ad u15.2 dw ++ [])) (As := [.int u14]) (rest := []) C hw hl.1 kX9_good ml_X9_222 (c_X9_good l G ad _ d_ad1 dw u14 u15 e15) (CutX.take dO_f CutX.none) _ (gx_h dO_o) rfl ⟨rfl, rfl⟩ ⟨Nat.le_of_ble_eq_true rfl, Nat.le_of_ble_eq_true rfl⟩ rfl ⟨Nat.zero_le _, Nat.zero_le _⟩ rfl (Nat.le_of_ble_eq_true rfl) dX9_sizes_65 (fun H locs hw => ?_)
        exact fin_i C hw (Option.some.inj hf) (fun o => o.1) (fun o => (dO G ad o.2 dw ++ [])) rfl rfl dX9_sizes_68
      replace hf := ifn hf h0_
      rcases Decidable.em (x2 = 1) with hc | h1_
      · replace hf := ifp hf hc
        refine lv_tableIn (tgt := 69) C.1 C.2.1 dX9_sizes_29 (by rw [hc]; decide) (by rw [hc]; decide) (by rw [hc]; rfl) (by decide) ?_
        refine r_aload0 C hl 0 rfl dX9_sizes_69 ?_
        refine r_iload0 C hl 1 rfl dX9_sizes_70 ?_
        obtain ⟨u12, e12, hf⟩ := bx hf
        refine r_callSi (ws' := (dO G ad d_ad1 dw ++ [])) (As := [.int x1]) (rest := [.ref (ad 99)]) C hw hl.1 kX9_slotsOf ml_X9_295 (c_X9_slotsOf l G _ x1 u12 e12) CutX.none ⟨rfl, rfl⟩ ⟨Nat.le_of_ble_eq_true rfl, Nat.le_of_ble_eq_true rfl⟩ rfl ⟨Nat.zero_le _, Nat.zero_le _⟩ rfl (Nat.le_of_ble_eq_true rfl) dX9_sizes_71 (fun H locs hw => ?_)
        obtain ⟨u13, e13, hf⟩ := bx hf
        refine r_callVi (ws' := (dO G ad u13.2 dw ++ [])) (As := [.int u12]) (rest := []) C hw hl.1 kX9_good ml_X9_222 (c_X9_good l G ad _ d_ad1 dw u12 u13 e13) (CutX.take dO_f CutX.none) _ (gx_h dO_o) rfl ⟨rfl, rfl⟩ ⟨Nat.le_of_ble_eq_true rfl, Nat.le_of_ble_eq_true rfl⟩ rfl ⟨Nat.zero_le _, Nat.zero_le _⟩ rfl (Nat.le_of_ble_eq_true rfl) dX9_sizes_74 (fun H locs hw => ?_)
        exact fin_i C hw (Option.some.inj hf) (fun o => o.1) (fun o => (dO G ad o.2 dw ++ [])) rfl rfl dX9_sizes_77
      replace hf := ifn hf h1_
      rcases Decidable.em (x2 = 2) with hc | h2_
      · replace hf := ifp hf hc
        refine lv_tableIn (tgt := 78) C.1 C.2.1 dX9_sizes_29 (by rw [hc]; decide) (by rw [hc]; decide) (by rw [hc]; rfl) (by decide) ?_
        refine r_aload0 C hl 0 rfl dX9_sizes_78 ?_
        refine lv_bipush (v := 16) C.1 C.2.1 dX9_sizes_79 (by decide) ?_
        refine r_iload0 C hl 1 rfl dX9_sizes_81 ?_
        obtain ⟨u9, e9, hf⟩ := bx hf
        refine r_callSi (ws' := (dO G ad d_ad1 dw ++ [])) (As := [.int x1]) (rest := [.int 16, .ref (ad 99)]) C hw hl.1 kX9_framesOf ml_X9_286 (c_X9_framesOf l G _ x1 u9 e9) CutX.none ⟨rfl, rfl⟩ ⟨Nat.le_of_ble_eq_true rfl, Nat.le_of_ble_eq_true rfl⟩ rfl ⟨Nat.zero_le _, Nat.zero_le _⟩ rfl (Nat.le_of_ble_eq_true rfl) dX9_sizes_82 (fun H locs hw => ?_)
        refine lv_imul C.1 C.2.1 dX9_sizes_85 ?_
        refine r_iload0 C hl 1 rfl dX9_sizes_86 ?_
        obtain ⟨v10_, e10, hf⟩ := bx hf
        refine r_irem C e10 dX9_sizes_87 ?_
        obtain ⟨u11, e11, hf⟩ := bx hf
        refine r_callVi (ws' := (dO G ad u11.2 dw ++ [])) (As := [.int v10_]) (rest := []) C hw hl.1 kX9_good ml_X9_222 (c_X9_good l G ad _ d_ad1 dw v10_ u11 e11) (CutX.take dO_f CutX.none) _ (gx_h dO_o) rfl ⟨rfl, rfl⟩ ⟨Nat.le_of_ble_eq_true rfl, Nat.le_of_ble_eq_true rfl⟩ rfl ⟨Nat.zero_le _, Nat.zero_le _⟩ rfl (Nat.le_of_ble_eq_true rfl) dX9_sizes_88 (fun H locs hw => ?_)
        exact fin_i C hw (Option.some.inj hf) (fun o => o.1) (fun o => (dO G ad o.2 dw ++ [])) rfl rfl dX9_sizes_91
      replace hf := ifn hf h2_
      rcases Decidable.em (x2 = 3) with hc | h3_
      · replace hf := ifp hf hc
        refine lv_tableIn (tgt := 92) C.1 C.2.1 dX9_sizes_29 (by rw [hc]; decide) (by rw [hc]; decide) (by rw [hc]; rfl) (by decide) ?_
        refine r_aload0 C hl 0 rfl dX9_sizes_92 ?_
        refine r_aload0 C hl 0 rfl dX9_sizes_93 ?_
        refine r_iload0 C hl 1 rfl dX9_sizes_94 ?_
        obtain ⟨u7, e7, hf⟩ := bx hf
        refine r_callVi (ws' := (dO G ad d_ad1 dw ++ [])) (As := [.int x1]) (rest := [.ref (ad 99)]) C hw hl.1 kX9_zonesOf ml_X9_298 (c_X9_zonesOf l G ad _ d_ad1 dw x1 u7 e7) (CutX.take dO_f CutX.none) _ (gx_h dO_o) rfl ⟨rfl, rfl⟩ ⟨Nat.le_of_ble_eq_true rfl, Nat.le_of_ble_eq_true rfl⟩ rfl ⟨Nat.zero_le _, Nat.zero_le _⟩ rfl (Nat.le_of_ble_eq_true rfl) dX9_sizes_95 (fun H locs hw => ?_)
        obtain ⟨u8, e8, hf⟩ := bx hf
        refine r_callVi (ws' := (dO G ad u8.2 dw ++ [])) (As := [.int u7]) (rest := []) C hw hl.1 kX9_good ml_X9_222 (c_X9_good l G ad _ d_ad1 dw u7 u8 e8) (CutX.take dO_f CutX.none) _ (gx_h dO_o) rfl ⟨rfl, rfl⟩ ⟨Nat.le_of_ble_eq_true rfl, Nat.le_of_ble_eq_true rfl⟩ rfl ⟨Nat.zero_le _, Nat.zero_le _⟩ rfl (Nat.le_of_ble_eq_true rfl) dX9_sizes_98 (fun H locs hw => ?_)
        exact fin_i C hw (Option.some.inj hf) (fun o => o.1) (fun o => (dO G ad o.2 dw ++ [])) rfl rfl dX9_sizes_101
      replace hf := ifn hf h3_
      refine lv_tableOut (tgt := 102) C.1 C.2.1 dX9_sizes_29 (sw_out4 h0_ h1_ h2_ h3_) (by decide) ?_
      refine r_aload0 C hl 0 rfl dX9_sizes_102 ?_
      refine r_aload0 C hl 0 rfl dX9_sizes_103 ?_
      refine r_iload0 C hl 1 rfl dX9_sizes_104 ?_
      obtain ⟨u5, e5, hf⟩ := bx hf
      refine r_callVi (ws' := (dO G ad d_ad1 dw ++ [])) (As := [.int x1]) (rest := [.ref (ad 99)]) C hw hl.1 kX9_pagesOf ml_X9_301 (c_X9_pagesOf l G ad _ d_ad1 dw x1 u5 e5) (CutX.take dO_f CutX.none) _ (gx_h dO_o) rfl ⟨rfl, rfl⟩ ⟨Nat.le_of_ble_eq_true rfl, Nat.le_of_ble_eq_true rfl⟩ rfl ⟨Nat.zero_le _, Nat.zero_le _⟩ rfl (Nat.le_of_ble_eq_true rfl) dX9_sizes_105 (fun H locs hw => ?_)
      obtain ⟨u6, e6, hf⟩ := bx hf
      refine r_callVi (ws' := (dO G ad u6.2 dw ++ [])) (As := [.int u5]) (rest := []) C hw hl.1 kX9_good ml_X9_222 (c_X9_good l G ad _ d_ad1 dw u5 u6 e6) (CutX.take dO_f CutX.none) _ (gx_h dO_o) rfl ⟨rfl, rfl⟩ ⟨Nat.le_of_ble_eq_true rfl, Nat.le_of_ble_eq_true rfl⟩ rfl ⟨Nat.zero_le _, Nat.zero_le _⟩ rfl (Nat.le_of_ble_eq_true rfl) dX9_sizes_108 (fun H locs hw => ?_)
      exact fin_i C hw (Option.some.inj hf) (fun o => o.1) (fun o => (dO G ad o.2 dw ++ [])) rfl rfl dX9_sizes_111
    · replace hf := ifp hf hc
      exact hB_22  d_ad1 hf _ _ hw _ (lv_sub hl [0] rfl)
set_option maxHeartbeats 4000000 in
set_option maxRecDepth 100000 in
theorem c_X9_readDataLine (l : Launch) (G : GG) (K : SK) (ad : Nat → Nat) (sz : Nat) (d_ad : Pic) (dw : Int64)  (out : Pic × Int64) (hf : f_X9_readDataLine d_ad dw = some out) : Met l yX9_readDataLine (.code yX9_readDataLine cX9_readDataLine 2 none :: BT) ({ frames := 6, cells := 0, slots := 0, locals := 133 }) (va_Pc [.ref (ad 99)] (PreT G K sz (dO G ad d_ad dw ++ []))) (Don G (va_A (dO G ad d_ad dw ++ []) sz) (dO G ad out.1 out.2 ++ [])) 0 0 (va_A (dO G ad d_ad dw ++ []) sz) := by
  refine Met.intoT (by decide) (Nat.le_of_ble_eq_true rfl) ?_
  intro p e s m below meth c C hsz hq ls hl hw
  have hl : lv_has ls 2 [(0, .ref (ad 99))] := hl
  clear hsz
  generalize va_A (dO G ad d_ad dw ++ []) sz = A at hw hq ⊢
  have hB_75 : ∀ (d_ad : Pic) (dw : Int64), b_X9_readDataLine_75   d_ad dw = some out → ∀ (H : Heap) (locs : List Loc), Wd G A s H locs (dO G ad d_ad dw ++ []) → ∀ ls : Array Slot, lv_has ls 2 [(0, .ref (ad 99))] → W p l e ({ frames := 6, cells := 0, slots := 0, locals := 133 }) s m [.ref (ad 99)].toArray below meth c H locs 0 0 (MQ below (Don G A (dO G ad out.1 out.2 ++ [])) [.ref (ad 99)].toArray s 0 0 A) (F0 m 75 ls []) := by
    intro d_ad dw hf H locs hw ls hl
    unfold b_X9_readDataLine_75 at hf
    refine r_aload0 C hl 0 rfl dX9_readDataLine_75 ?_
    refine r_get C hw _ (gx_h dO_o) 31 fl_X9_84 rfl dX9_readDataLine_76 ?_
    refine lv_if_ne (tgt := 92) C.1 C.2.1 dX9_readDataLine_79 (by decide) (fun hc => ?_) (fun hc => ?_)
    · replace hf := ifn hf hc
      exact fin_v C hw (Option.some.inj hf) (fun o => (dO G ad o.1 o.2 ++ [])) rfl dX9_readDataLine_92
    · replace hf := ifp hf hc
      refine r_aload0 C hl 0 rfl dX9_readDataLine_82 ?_
      refine lv_dup C.1 C.2.1 dX9_readDataLine_83 rfl ?_
      refine r_get C hw _ (gx_h dO_o) 10 fl_X9_151 rfl dX9_readDataLine_84 ?_
      refine lv_iconst (v := 1) C.1 C.2.1 dX9_readDataLine_87 (by decide) ?_
      refine lv_iadd C.1 C.2.1 dX9_readDataLine_88 ?_
      obtain ⟨d_ad4, e4, hf⟩ := bx hf
      refine r_put C hw _ (gx_h dO_o) 10 fp_X9_151 rfl rfl (Nat.le_of_ble_eq_true rfl) (dO G ad d_ad4 dw ++ []) (sx_h dO_o (dO_p10 e4)) dX9_readDataLine_89 (fun H locs hw => ?_)
      exact fin_v C hw (Option.some.inj hf) (fun o => (dO G ad o.1 o.2 ++ [])) rfl dX9_readDataLine_92
  have hB_69 : ∀ (d_ad : Pic) (dw : Int64), b_X9_readDataLine_69   d_ad dw = some out → ∀ (H : Heap) (locs : List Loc), Wd G A s H locs (dO G ad d_ad dw ++ []) → ∀ ls : Array Slot, lv_has ls 2 [(0, .ref (ad 99))] → W p l e ({ frames := 6, cells := 0, slots := 0, locals := 133 }) s m [.ref (ad 99)].toArray below meth c H locs 0 0 (MQ below (Don G A (dO G ad out.1 out.2 ++ [])) [.ref (ad 99)].toArray s 0 0 A) (F0 m 69 ls []) := by
    intro d_ad dw hf H locs hw ls hl
    unfold b_X9_readDataLine_69 at hf
    refine r_aload0 C hl 0 rfl dX9_readDataLine_69 ?_
    refine lv_bipush (v := 6) C.1 C.2.1 dX9_readDataLine_70 (by decide) ?_
    obtain ⟨u6, e6, hf⟩ := bx hf
    refine r_callVv (ws' := (dO G ad u6 dw ++ [])) (As := [.int 6]) (rest := []) C hw hl.1 kX9_flaw ml_X9_131 (c_X9_flaw l G ad _ d_ad dw 6 u6 e6) (CutX.take dO_f CutX.none) _ (gx_h dO_o) rfl ⟨rfl, rfl⟩ ⟨Nat.le_of_ble_eq_true rfl, Nat.le_of_ble_eq_true rfl⟩ rfl ⟨Nat.zero_le _, Nat.zero_le _⟩ rfl (Nat.le_of_ble_eq_true rfl) dX9_readDataLine_72 (fun H locs hw => ?_)
    exact hB_75  u6 dw hf _ _ hw _ (lv_sub hl [0] rfl)
  have hB_24 : ∀ (k24 : Pic → Int64 → Int32 → Option (Pic × Int64)) (hk24 : ∀ (d_ad : Pic) (dw : Int64) (v1 : Int32), k24 d_ad dw v1 = some out → ∀ (H : Heap) (locs : List Loc), Wd G A s H locs (dO G ad d_ad dw ++ []) → ∀ ls : Array Slot, lv_has ls 2 [(0, .ref (ad 99)), (1, .int v1)] → W p l e ({ frames := 6, cells := 0, slots := 0, locals := 133 }) s m [.ref (ad 99)].toArray below meth c H locs 0 0 (MQ below (Don G A (dO G ad out.1 out.2 ++ [])) [.ref (ad 99)].toArray s 0 0 A) (F0 m 24 ls [])), ∀ (d_ad : Pic) (dw : Int64) (v1 : Int32), b_X9_readDataLine_24  k24 d_ad dw v1 = some out → ∀ (H : Heap) (locs : List Loc), Wd G A s H locs (dO G ad d_ad dw ++ []) → ∀ ls : Array Slot, lv_has ls 2 [(0, .ref (ad 99)), (1, .int v1)] → W p l e ({ frames := 6, cells := 0, slots := 0, locals := 133 }) s m [.ref (ad 99)].toArray below meth c H locs 0 0 (MQ below (Don G A (dO G ad out.1 out.2 ++ [])) [.ref (ad 99)].toArray s 0 0 A) (F0 m 24 ls []) := by
    intro k24 hk24 d_ad dw v1 hf H locs hw ls hl
    unfold b_X9_readDataLine_24 at hf
    refine r_aload0 C hl 0 rfl dX9_readDataLine_24 ?_
    refine lv_bipush (v := 44) C.1 C.2.1 dX9_readDataLine_25 (by decide) ?_
    obtain ⟨u3, e3, hf⟩ := bx hf
    refine r_callVi (ws' := (dO G ad d_ad dw ++ [])) (As := [.int 44]) (rest := []) C hw hl.1 kX9_isSign ml_X9_160 (c_X9_isSign l G ad _ d_ad dw 44 u3 e3) (CutX.take dO_f CutX.none) _ (gx_h dO_o) rfl ⟨rfl, rfl⟩ ⟨Nat.le_of_ble_eq_true rfl, Nat.le_of_ble_eq_true rfl⟩ rfl ⟨Nat.zero_le _, Nat.zero_le _⟩ rfl (Nat.le_of_ble_eq_true rfl) dX9_readDataLine_27 (fun H locs hw => ?_)
    refine lv_if_eq (tgt := 46) C.1 C.2.1 dX9_readDataLine_30 (by decide) (fun hc => ?_) (fun hc => ?_)
    · replace hf := ifp hf hc
      refine r_iload0 C hl 1 rfl dX9_readDataLine_46 ?_
      refine lv_bipush (v := 16) C.1 C.2.1 dX9_readDataLine_47 (by decide) ?_
      refine lv_icmp_ge (tgt := 75) C.1 C.2.1 dX9_readDataLine_49 (by decide) (fun hc => ?_) (fun hc => ?_)
      · replace hf := ifp hf hc
        exact hB_75  d_ad dw hf _ _ hw _ (lv_sub hl [0] rfl)
      · replace hf := ifn hf hc
        refine r_aload0 C hl 0 rfl dX9_readDataLine_52 ?_
        refine lv_bipush (v := 59) C.1 C.2.1 dX9_readDataLine_53 (by decide) ?_
        obtain ⟨u5, e5, hf⟩ := bx hf
        refine r_callVi (ws' := (dO G ad d_ad dw ++ [])) (As := [.int 59]) (rest := []) C hw hl.1 kX9_isSign ml_X9_160 (c_X9_isSign l G ad _ d_ad dw 59 u5 e5) (CutX.take dO_f CutX.none) _ (gx_h dO_o) rfl ⟨rfl, rfl⟩ ⟨Nat.le_of_ble_eq_true rfl, Nat.le_of_ble_eq_true rfl⟩ rfl ⟨Nat.zero_le _, Nat.zero_le _⟩ rfl (Nat.le_of_ble_eq_true rfl) dX9_readDataLine_55 (fun H locs hw => ?_)
        refine lv_if_ne (tgt := 69) C.1 C.2.1 dX9_readDataLine_58 (by decide) (fun hc => ?_) (fun hc => ?_)
        · replace hf := ifn hf hc
          exact hB_69  d_ad dw hf _ _ hw _ (lv_sub hl [0] rfl)
        · replace hf := ifp hf hc
          refine r_aload0 C hl 0 rfl dX9_readDataLine_61 ?_
          refine r_get C hw _ (gx_h dO_o) 28 fl_X9_97 rfl dX9_readDataLine_62 ?_
          refine lv_iconst (v := 1) C.1 C.2.1 dX9_readDataLine_65 (by decide) ?_
          refine lv_icmp_ne (tgt := 75) C.1 C.2.1 dX9_readDataLine_66 (by decide) (fun hc => ?_) (fun hc => ?_)
          · replace hf := ifn hf hc
            exact hB_75  d_ad dw hf _ _ hw _ (lv_sub hl [0] rfl)
          · replace hf := ifp hf hc
            exact hB_69  d_ad dw hf _ _ hw _ (lv_sub hl [0] rfl)
    · replace hf := ifn hf hc
      refine r_aload0 C hl 0 rfl dX9_readDataLine_33 ?_
      obtain ⟨u7, e7, hf⟩ := bx hf
      refine r_callVv (ws' := (dO G ad u7.1 u7.2 ++ [])) (As := []) (rest := []) C hw hl.1 kX9_goOn ml_X9_138 (c_X9_goOn l G ad _ d_ad dw u7 e7) (CutX.take dO_f CutX.none) _ (gx_h dO_o) rfl ⟨rfl, rfl⟩ ⟨Nat.le_of_ble_eq_true rfl, Nat.le_of_ble_eq_true rfl⟩ rfl ⟨Nat.zero_le _, Nat.zero_le _⟩ rfl (Nat.le_of_ble_eq_true rfl) dX9_readDataLine_34 (fun H locs hw => ?_)
      refine r_aload0 C hl 0 rfl dX9_readDataLine_37 ?_
      refine r_iload0 C hl 1 rfl dX9_readDataLine_38 ?_
      obtain ⟨u8, e8, hf⟩ := bx hf
      refine g_callVi (ws' := (dO G ad u8.2.1 u8.2.2 ++ [])) (As := [.int v1]) (rest := []) C hw hl.1 kX9_readSome ml_X9_203 (c_X9_readSome l G K ad _ u7.1 u7.2 v1 u8 e8) blindT (CutX.take dO_f CutX.none) (fun hf U hU hW hp => ⟨hp, hq.pass hw.2.2.2.1 hf hU hW⟩) (va_recv hw.1 hw.2.1 rfl (gx_h dO_o)) ⟨rfl, rfl⟩ ⟨Nat.le_of_ble_eq_true rfl, Nat.le_of_ble_eq_true rfl⟩ rfl ⟨Nat.zero_le _, Nat.zero_le _⟩ rfl (Nat.le_of_ble_eq_true rfl) dX9_readDataLine_39 (fun H locs hw => ?_)
      refine r_istore0 C hl [(1, .int u8.1), (0, .ref (ad 99))] (by decide) rfl dX9_readDataLine_42 (fun ls hl => ?_)
      refine lv_goto (tgt := 24) C.1 C.2.1 dX9_readDataLine_43 (by decide) ?_
      exact hk24 u8.2.1 u8.2.2 u8.1 hf _ _ hw _ (lv_sub hl [1, 0] rfl)
  have hL_24 : ∀ n : Nat, ∀ (d_ad : Pic) (dw : Int64) (v1 : Int32), L_X9_readDataLine_24   n d_ad dw v1 = some out → ∀ (H : Heap) (locs : List Loc), Wd G A s H locs (dO G ad d_ad dw ++ []) → ∀ ls : Array Slot, lv_has ls 2 [(0, .ref (ad 99)), (1, .int v1)] → W p l e ({ frames := 6, cells := 0, slots := 0, locals := 133 }) s m [.ref (ad 99)].toArray below meth c H locs 0 0 (MQ below (Don G A (dO G ad out.1 out.2 ++ [])) [.ref (ad 99)].toArray s 0 0 A) (F0 m 24 ls []) := by
    intro  n
    induction n with
    | zero => intro d_ad dw v1 hf; cases hf
    | succ n ih => exact hB_24 _ ih
  have hB_15 : ∀ (d_ad : Pic) (dw : Int64) (t0 : Int32), b_X9_readDataLine_15   d_ad dw t0 = some out → ∀ (H : Heap) (locs : List Loc), Wd G A s H locs (dO G ad d_ad dw ++ []) → ∀ ls : Array Slot, lv_has ls 2 [(0, .ref (ad 99))] → W p l e ({ frames := 6, cells := 0, slots := 0, locals := 133 }) s m [.ref (ad 99)].toArray below meth c H locs 0 0 (MQ below (Don G A (dO G ad out.1 out.2 ++ [])) [.ref (ad 99)].toArray s 0 0 A) (F0 m 15 ls [.int t0, .ref (ad 99)]) := by
    intro d_ad dw t0 hf H locs hw ls hl
    unfold b_X9_readDataLine_15 at hf
    obtain ⟨u1, e1, hf⟩ := bx hf
    refine r_callVv (ws' := (dO G ad u1.1 u1.2 ++ [])) (As := [.int t0]) (rest := []) C hw hl.1 kX9_begins ml_X9_199 (c_X9_begins l G ad _ d_ad dw t0 u1 e1) (CutX.take dO_f CutX.none) _ (gx_h dO_o) rfl ⟨rfl, rfl⟩ ⟨Nat.le_of_ble_eq_true rfl, Nat.le_of_ble_eq_true rfl⟩ rfl ⟨Nat.zero_le _, Nat.zero_le _⟩ rfl (Nat.le_of_ble_eq_true rfl) dX9_readDataLine_15 (fun H locs hw => ?_)
    refine r_aload0 C hl 0 rfl dX9_readDataLine_18 ?_
    refine lv_iconst (v := 0) C.1 C.2.1 dX9_readDataLine_19 (by decide) ?_
    obtain ⟨u2, e2, hf⟩ := bx hf
    refine g_callVi (ws' := (dO G ad u2.2.1 u2.2.2 ++ [])) (As := [.int 0]) (rest := []) C hw hl.1 kX9_readSome ml_X9_203 (c_X9_readSome l G K ad _ u1.1 u1.2 0 u2 e2) blindT (CutX.take dO_f CutX.none) (fun hf U hU hW hp => ⟨hp, hq.pass hw.2.2.2.1 hf hU hW⟩) (va_recv hw.1 hw.2.1 rfl (gx_h dO_o)) ⟨rfl, rfl⟩ ⟨Nat.le_of_ble_eq_true rfl, Nat.le_of_ble_eq_true rfl⟩ rfl ⟨Nat.zero_le _, Nat.zero_le _⟩ rfl (Nat.le_of_ble_eq_true rfl) dX9_readDataLine_20 (fun H locs hw => ?_)
    refine r_istore0 C hl [(1, .int u2.1), (0, .ref (ad 99))] (by decide) rfl dX9_readDataLine_23 (fun ls hl => ?_)
    exact hL_24  FU u2.2.1 u2.2.2 u2.1 hf _ _ hw _ (lv_sub hl [1, 0] rfl)
  unfold f_X9_readDataLine at hf
  refine r_aload0 C hl 0 rfl dX9_readDataLine_0 ?_
  refine r_aload0 C hl 0 rfl dX9_readDataLine_1 ?_
  refine r_get C hw _ (gx_h dO_o) 10 fl_X9_151 rfl dX9_readDataLine_2 ?_
  refine lv_bipush (v := 10) C.1 C.2.1 dX9_readDataLine_5 (by decide) ?_
  refine lv_icmp_ne (tgt := 14) C.1 C.2.1 dX9_readDataLine_7 (by decide) (fun hc => ?_) (fun hc => ?_)
  · replace hf := ifn hf hc
    refine lv_iconst (v := 0) C.1 C.2.1 dX9_readDataLine_14 (by decide) ?_
    exact hB_15  d_ad dw 0 hf _ _ hw _ (lv_sub hl [0] rfl)
  · replace hf := ifp hf hc
    refine lv_iconst (v := 1) C.1 C.2.1 dX9_readDataLine_10 (by decide) ?_
    refine lv_goto (tgt := 15) C.1 C.2.1 dX9_readDataLine_11 (by decide) ?_
    exact hB_15  d_ad dw 1 hf _ _ hw _ (lv_sub hl [0] rfl)
set_option maxHeartbeats 4000000 in
set_option maxRecDepth 100000 in
theorem c_X9_readLine (l : Launch) (G : GG) (K : SK) (ad : Nat → Nat) (sz : Nat) (d_ad : Pic) (dw : Int64)  (out : Pic × Int64) (hf : f_X9_readLine d_ad dw = some out) : Met l yX9_readLine (.code yX9_readLine cX9_readLine 1 none :: BT) ({ frames := 7, cells := 0, slots := 0, locals := 155 }) (va_Pc [.ref (ad 99)] (PreT G K sz (dO G ad d_ad dw ++ []))) (Don G (va_A (dO G ad d_ad dw ++ []) sz) (dO G ad out.1 out.2 ++ [])) 0 0 (va_A (dO G ad d_ad dw ++ []) sz) := by
  refine Met.intoT (by decide) (Nat.le_of_ble_eq_true rfl) ?_
  intro p e s m below meth c C hsz hq ls hl hw
  have hl : lv_has ls 1 [(0, .ref (ad 99))] := hl
  clear hsz
  generalize va_A (dO G ad d_ad dw ++ []) sz = A at hw hq ⊢
  unfold f_X9_readLine at hf
  refine r_aload0 C hl 0 rfl dX9_readLine_0 ?_
  refine va_ldcS C.1 C.2.1 C.2.2.2.1 (hq.2.1 0 (by decide)).2 dX9_readLine_1 ?_
  obtain ⟨u1, e1, hf⟩ := bx hf
  refine g_callVi (ws' := (dO G ad d_ad dw ++ [])) (As := [.ref (K.1 0)]) (rest := []) C hw hl.1 kX9_isWord ml_X9_141 (c_X9_isWord l G K ad _ d_ad dw 0 (by decide) u1 e1) blindT (CutX.take dO_f CutX.none) (fun hf U hU hW hp => ⟨hp, hq.pass hw.2.2.2.1 hf hU hW⟩) (va_recv hw.1 hw.2.1 rfl (gx_h dO_o)) ⟨rfl, rfl⟩ ⟨Nat.le_of_ble_eq_true rfl, Nat.le_of_ble_eq_true rfl⟩ rfl ⟨Nat.zero_le _, Nat.zero_le _⟩ rfl (Nat.le_of_ble_eq_true rfl) dX9_readLine_3 (fun H locs hw => ?_)
  refine lv_if_eq (tgt := 16) C.1 C.2.1 dX9_readLine_6 (by decide) (fun hc => ?_) (fun hc => ?_)
  · replace hf := ifp hf hc
    refine r_aload0 C hl 0 rfl dX9_readLine_16 ?_
    refine va_ldcS C.1 C.2.1 C.2.2.2.1 (hq.2.1 4 (by decide)).2 dX9_readLine_17 ?_
    obtain ⟨u2, e2, hf⟩ := bx hf
    refine g_callVi (ws' := (dO G ad d_ad dw ++ [])) (As := [.ref (K.1 4)]) (rest := []) C hw hl.1 kX9_isWord ml_X9_141 (c_X9_isWord l G K ad _ d_ad dw 4 (by decide) u2 e2) blindT (CutX.take dO_f CutX.none) (fun hf U hU hW hp => ⟨hp, hq.pass hw.2.2.2.1 hf hU hW⟩) (va_recv hw.1 hw.2.1 rfl (gx_h dO_o)) ⟨rfl, rfl⟩ ⟨Nat.le_of_ble_eq_true rfl, Nat.le_of_ble_eq_true rfl⟩ rfl ⟨Nat.zero_le _, Nat.zero_le _⟩ rfl (Nat.le_of_ble_eq_true rfl) dX9_readLine_19 (fun H locs hw => ?_)
    refine lv_if_eq (tgt := 32) C.1 C.2.1 dX9_readLine_22 (by decide) (fun hc => ?_) (fun hc => ?_)
    · replace hf := ifp hf hc
      refine r_aload0 C hl 0 rfl dX9_readLine_32 ?_
      refine va_ldcS C.1 C.2.1 C.2.2.2.1 (hq.2.1 6 (by decide)).2 dX9_readLine_33 ?_
      obtain ⟨u3, e3, hf⟩ := bx hf
      refine g_callVi (ws' := (dO G ad d_ad dw ++ [])) (As := [.ref (K.1 6)]) (rest := []) C hw hl.1 kX9_isWord ml_X9_141 (c_X9_isWord l G K ad _ d_ad dw 6 (by decide) u3 e3) blindT (CutX.take dO_f CutX.none) (fun hf U hU hW hp => ⟨hp, hq.pass hw.2.2.2.1 hf hU hW⟩) (va_recv hw.1 hw.2.1 rfl (gx_h dO_o)) ⟨rfl, rfl⟩ ⟨Nat.le_of_ble_eq_true rfl, Nat.le_of_ble_eq_true rfl⟩ rfl ⟨Nat.zero_le _, Nat.zero_le _⟩ rfl (Nat.le_of_ble_eq_true rfl) dX9_readLine_35 (fun H locs hw => ?_)
      refine lv_if_eq (tgt := 49) C.1 C.2.1 dX9_readLine_38 (by decide) (fun hc => ?_) (fun hc => ?_)
      · replace hf := ifp hf hc
        refine r_aload0 C hl 0 rfl dX9_readLine_49 ?_
        refine va_ldcS C.1 C.2.1 C.2.2.2.1 (hq.2.1 7 (by decide)).2 dX9_readLine_50 ?_
        obtain ⟨u4, e4, hf⟩ := bx hf
        refine g_callVi (ws' := (dO G ad d_ad dw ++ [])) (As := [.ref (K.1 7)]) (rest := []) C hw hl.1 kX9_isWord ml_X9_141 (c_X9_isWord l G K ad _ d_ad dw 7 (by decide) u4 e4) blindT (CutX.take dO_f CutX.none) (fun hf U hU hW hp => ⟨hp, hq.pass hw.2.2.2.1 hf hU hW⟩) (va_recv hw.1 hw.2.1 rfl (gx_h dO_o)) ⟨rfl, rfl⟩ ⟨Nat.le_of_ble_eq_true rfl, Nat.le_of_ble_eq_true rfl⟩ rfl ⟨Nat.zero_le _, Nat.zero_le _⟩ rfl (Nat.le_of_ble_eq_true rfl) dX9_readLine_52 (fun H locs hw => ?_)
        refine lv_if_eq (tgt := 66) C.1 C.2.1 dX9_readLine_55 (by decide) (fun hc => ?_) (fun hc => ?_)
        · replace hf := ifp hf hc
          refine r_aload0 C hl 0 rfl dX9_readLine_66 ?_
          refine va_ldcS C.1 C.2.1 C.2.2.2.1 (hq.2.1 8 (by decide)).2 dX9_readLine_67 ?_
          obtain ⟨u5, e5, hf⟩ := bx hf
          refine g_callVi (ws' := (dO G ad d_ad dw ++ [])) (As := [.ref (K.1 8)]) (rest := []) C hw hl.1 kX9_isWord ml_X9_141 (c_X9_isWord l G K ad _ d_ad dw 8 (by decide) u5 e5) blindT (CutX.take dO_f CutX.none) (fun hf U hU hW hp => ⟨hp, hq.pass hw.2.2.2.1 hf hU hW⟩) (va_recv hw.1 hw.2.1 rfl (gx_h dO_o)) ⟨rfl, rfl⟩ ⟨Nat.le_of_ble_eq_true rfl, Nat.le_of_ble_eq_true rfl⟩ rfl ⟨Nat.zero_le _, Nat.zero_le _⟩ rfl (Nat.le_of_ble_eq_true rfl) dX9_readLine_69 (fun H locs hw => ?_)
          refine lv_if_eq (tgt := 83) C.1 C.2.1 dX9_readLine_72 (by decide) (fun hc => ?_) (fun hc => ?_)
          · replace hf := ifp hf hc
            refine r_aload0 C hl 0 rfl dX9_readLine_83 ?_
            refine lv_iconst (v := 1) C.1 C.2.1 dX9_readLine_84 (by decide) ?_
            obtain ⟨u6, e6, hf⟩ := bx hf
            refine r_callVv (ws' := (dO G ad u6 dw ++ [])) (As := [.int 1]) (rest := []) C hw hl.1 kX9_flaw ml_X9_131 (c_X9_flaw l G ad _ d_ad dw 1 u6 e6) (CutX.take dO_f CutX.none) _ (gx_h dO_o) rfl ⟨rfl, rfl⟩ ⟨Nat.le_of_ble_eq_true rfl, Nat.le_of_ble_eq_true rfl⟩ rfl ⟨Nat.zero_le _, Nat.zero_le _⟩ rfl (Nat.le_of_ble_eq_true rfl) dX9_readLine_85 (fun H locs hw => ?_)
            exact fin_v C hw (Option.some.inj hf) (fun o => (dO G ad o.1 o.2 ++ [])) rfl dX9_readLine_88
          · replace hf := ifn hf hc
            refine r_aload0 C hl 0 rfl dX9_readLine_75 ?_
            refine lv_iconst (v := 2) C.1 C.2.1 dX9_readLine_76 (by decide) ?_
            obtain ⟨u7, e7, hf⟩ := bx hf
            refine r_callVv (ws' := (dO G ad u7.1 u7.2 ++ [])) (As := [.int 2]) (rest := []) C hw hl.1 kX9_readOp ml_X9_176 (c_X9_readOp l G ad _ d_ad dw 2 u7 e7) (CutX.take dO_f CutX.none) _ (gx_h dO_o) rfl ⟨rfl, rfl⟩ ⟨Nat.le_of_ble_eq_true rfl, Nat.le_of_ble_eq_true rfl⟩ rfl ⟨Nat.zero_le _, Nat.zero_le _⟩ rfl (Nat.le_of_ble_eq_true rfl) dX9_readLine_77 (fun H locs hw => ?_)
            refine lv_goto (tgt := 88) C.1 C.2.1 dX9_readLine_80 (by decide) ?_
            exact fin_v C hw (Option.some.inj hf) (fun o => (dO G ad o.1 o.2 ++ [])) rfl dX9_readLine_88
        · replace hf := ifn hf hc
          refine r_aload0 C hl 0 rfl dX9_readLine_58 ?_
          refine lv_iconst (v := 1) C.1 C.2.1 dX9_readLine_59 (by decide) ?_
          obtain ⟨u8, e8, hf⟩ := bx hf
          refine r_callVv (ws' := (dO G ad u8.1 u8.2 ++ [])) (As := [.int 1]) (rest := []) C hw hl.1 kX9_readOp ml_X9_176 (c_X9_readOp l G ad _ d_ad dw 1 u8 e8) (CutX.take dO_f CutX.none) _ (gx_h dO_o) rfl ⟨rfl, rfl⟩ ⟨Nat.le_of_ble_eq_true rfl, Nat.le_of_ble_eq_true rfl⟩ rfl ⟨Nat.zero_le _, Nat.zero_le _⟩ rfl (Nat.le_of_ble_eq_true rfl) dX9_readLine_60 (fun H locs hw => ?_)
          refine lv_goto (tgt := 88) C.1 C.2.1 dX9_readLine_63 (by decide) ?_
          exact fin_v C hw (Option.some.inj hf) (fun o => (dO G ad o.1 o.2 ++ [])) rfl dX9_readLine_88
      · replace hf := ifn hf hc
        refine r_aload0 C hl 0 rfl dX9_readLine_41 ?_
        refine lv_iconst (v := 0) C.1 C.2.1 dX9_readLine_42 (by decide) ?_
        obtain ⟨u9, e9, hf⟩ := bx hf
        refine r_callVv (ws' := (dO G ad u9.1 u9.2 ++ [])) (As := [.int 0]) (rest := []) C hw hl.1 kX9_readOp ml_X9_176 (c_X9_readOp l G ad _ d_ad dw 0 u9 e9) (CutX.take dO_f CutX.none) _ (gx_h dO_o) rfl ⟨rfl, rfl⟩ ⟨Nat.le_of_ble_eq_true rfl, Nat.le_of_ble_eq_true rfl⟩ rfl ⟨Nat.zero_le _, Nat.zero_le _⟩ rfl (Nat.le_of_ble_eq_true rfl) dX9_readLine_43 (fun H locs hw => ?_)
        refine lv_goto (tgt := 88) C.1 C.2.1 dX9_readLine_46 (by decide) ?_
        exact fin_v C hw (Option.some.inj hf) (fun o => (dO G ad o.1 o.2 ++ [])) rfl dX9_readLine_88
    · replace hf := ifn hf hc
      refine r_aload0 C hl 0 rfl dX9_readLine_25 ?_
      obtain ⟨u10, e10, hf⟩ := bx hf
      refine g_callVv (ws' := (dO G ad u10.1 u10.2 ++ [])) (As := []) (rest := []) C hw hl.1 kX9_readDataLine ml_X9_171 (c_X9_readDataLine l G K ad _ d_ad dw u10 e10) blindT (CutX.take dO_f CutX.none) (fun hf U hU hW hp => ⟨hp, hq.pass hw.2.2.2.1 hf hU hW⟩) (va_recv hw.1 hw.2.1 rfl (gx_h dO_o)) ⟨rfl, rfl⟩ ⟨Nat.le_of_ble_eq_true rfl, Nat.le_of_ble_eq_true rfl⟩ rfl ⟨Nat.zero_le _, Nat.zero_le _⟩ rfl (Nat.le_of_ble_eq_true rfl) dX9_readLine_26 (fun H locs hw => ?_)
      refine lv_goto (tgt := 88) C.1 C.2.1 dX9_readLine_29 (by decide) ?_
      exact fin_v C hw (Option.some.inj hf) (fun o => (dO G ad o.1 o.2 ++ [])) rfl dX9_readLine_88
  · replace hf := ifn hf hc
    refine r_aload0 C hl 0 rfl dX9_readLine_9 ?_
    obtain ⟨u11, e11, hf⟩ := bx hf
    refine g_callVv (ws' := (dO G ad u11.1 u11.2 ++ [])) (As := []) (rest := []) C hw hl.1 kX9_readSwap ml_X9_166 (c_X9_readSwap l G K ad _ d_ad dw u11 e11) blindT (CutX.take dO_f CutX.none) (fun hf U hU hW hp => ⟨hp, hq.pass hw.2.2.2.1 hf hU hW⟩) (va_recv hw.1 hw.2.1 rfl (gx_h dO_o)) ⟨rfl, rfl⟩ ⟨Nat.le_of_ble_eq_true rfl, Nat.le_of_ble_eq_true rfl⟩ rfl ⟨Nat.zero_le _, Nat.zero_le _⟩ rfl (Nat.le_of_ble_eq_true rfl) dX9_readLine_10 (fun H locs hw => ?_)
    refine lv_goto (tgt := 88) C.1 C.2.1 dX9_readLine_13 (by decide) ?_
    exact fin_v C hw (Option.some.inj hf) (fun o => (dO G ad o.1 o.2 ++ [])) rfl dX9_readLine_88
set_option maxHeartbeats 4000000 in
set_option maxRecDepth 100000 in
theorem c_X9_readAll (l : Launch) (G : GG) (K : SK) (ad : Nat → Nat) (sz : Nat) (d_ad : Pic) (dw : Int64)  (out : Pic × Int64) (hf : f_X9_readAll d_ad dw = some out) : Met l yX9_readAll (.code yX9_readAll cX9_readAll 1 none :: BT) ({ frames := 8, cells := 0, slots := 0, locals := 175 }) (va_Pc [.ref (ad 99)] (PreT G K sz (dO G ad d_ad dw ++ []))) (Don G (va_A (dO G ad d_ad dw ++ []) sz) (dO G ad out.1 out.2 ++ [])) 0 0 (va_A (dO G ad d_ad dw ++ []) sz) := by
  refine Met.intoT (by decide) (Nat.le_of_ble_eq_true rfl) ?_
  intro p e s m below meth c C hsz hq ls hl hw
  have hl : lv_has ls 1 [(0, .ref (ad 99))] := hl
  clear hsz
  generalize va_A (dO G ad d_ad dw ++ []) sz = A at hw hq ⊢
  have hB_56 : ∀ (d_ad : Pic) (dw : Int64), b_X9_readAll_56   d_ad dw = some out → ∀ (H : Heap) (locs : List Loc), Wd G A s H locs (dO G ad d_ad dw ++ []) → ∀ ls : Array Slot, lv_has ls 1 [(0, .ref (ad 99))] → W p l e ({ frames := 8, cells := 0, slots := 0, locals := 175 }) s m [.ref (ad 99)].toArray below meth c H locs 0 0 (MQ below (Don G A (dO G ad out.1 out.2 ++ [])) [.ref (ad 99)].toArray s 0 0 A) (F0 m 56 ls []) := by
    intro d_ad dw hf H locs hw ls hl
    unfold b_X9_readAll_56 at hf
    refine r_aload0 C hl 0 rfl dX9_readAll_56 ?_
    refine r_get C hw _ (gx_h dO_o) 31 fl_X9_84 rfl dX9_readAll_57 ?_
    refine lv_if_ne (tgt := 75) C.1 C.2.1 dX9_readAll_60 (by decide) (fun hc => ?_) (fun hc => ?_)
    · replace hf := ifn hf hc
      exact fin_v C hw (Option.some.inj hf) (fun o => (dO G ad o.1 o.2 ++ [])) rfl dX9_readAll_75
    · replace hf := ifp hf hc
      refine r_aload0 C hl 0 rfl dX9_readAll_63 ?_
      refine r_get C hw _ (gx_h dO_o) 7 fl_X9_148 rfl dX9_readAll_64 ?_
      refine lv_if_ne (tgt := 75) C.1 C.2.1 dX9_readAll_67 (by decide) (fun hc => ?_) (fun hc => ?_)
      · replace hf := ifn hf hc
        exact fin_v C hw (Option.some.inj hf) (fun o => (dO G ad o.1 o.2 ++ [])) rfl dX9_readAll_75
      · replace hf := ifp hf hc
        refine r_aload0 C hl 0 rfl dX9_readAll_70 ?_
        refine lv_iconst (v := 5) C.1 C.2.1 dX9_readAll_71 (by decide) ?_
        obtain ⟨u7, e7, hf⟩ := bx hf
        refine r_callVv (ws' := (dO G ad u7 dw ++ [])) (As := [.int 5]) (rest := []) C hw hl.1 kX9_flaw ml_X9_131 (c_X9_flaw l G ad _ d_ad dw 5 u7 e7) (CutX.take dO_f CutX.none) _ (gx_h dO_o) rfl ⟨rfl, rfl⟩ ⟨Nat.le_of_ble_eq_true rfl, Nat.le_of_ble_eq_true rfl⟩ rfl ⟨Nat.zero_le _, Nat.zero_le _⟩ rfl (Nat.le_of_ble_eq_true rfl) dX9_readAll_72 (fun H locs hw => ?_)
        exact fin_v C hw (Option.some.inj hf) (fun o => (dO G ad o.1 o.2 ++ [])) rfl dX9_readAll_75
  have hB_23 : ∀ (k23 : Pic → Int64 → Option (Pic × Int64)) (hk23 : ∀ (d_ad : Pic) (dw : Int64), k23 d_ad dw = some out → ∀ (H : Heap) (locs : List Loc), Wd G A s H locs (dO G ad d_ad dw ++ []) → ∀ ls : Array Slot, lv_has ls 1 [(0, .ref (ad 99))] → W p l e ({ frames := 8, cells := 0, slots := 0, locals := 175 }) s m [.ref (ad 99)].toArray below meth c H locs 0 0 (MQ below (Don G A (dO G ad out.1 out.2 ++ [])) [.ref (ad 99)].toArray s 0 0 A) (F0 m 23 ls [])), ∀ (d_ad : Pic) (dw : Int64), b_X9_readAll_23  k23 d_ad dw = some out → ∀ (H : Heap) (locs : List Loc), Wd G A s H locs (dO G ad d_ad dw ++ []) → ∀ ls : Array Slot, lv_has ls 1 [(0, .ref (ad 99))] → W p l e ({ frames := 8, cells := 0, slots := 0, locals := 175 }) s m [.ref (ad 99)].toArray below meth c H locs 0 0 (MQ below (Don G A (dO G ad out.1 out.2 ++ [])) [.ref (ad 99)].toArray s 0 0 A) (F0 m 23 ls []) := by
    intro k23 hk23 d_ad dw hf H locs hw ls hl
    unfold b_X9_readAll_23 at hf
    refine r_aload0 C hl 0 rfl dX9_readAll_23 ?_
    refine lv_bipush (v := 59) C.1 C.2.1 dX9_readAll_24 (by decide) ?_
    obtain ⟨u6, e6, hf⟩ := bx hf
    refine r_callVi (ws' := (dO G ad d_ad dw ++ [])) (As := [.int 59]) (rest := []) C hw hl.1 kX9_isSign ml_X9_160 (c_X9_isSign l G ad _ d_ad dw 59 u6 e6) (CutX.take dO_f CutX.none) _ (gx_h dO_o) rfl ⟨rfl, rfl⟩ ⟨Nat.le_of_ble_eq_true rfl, Nat.le_of_ble_eq_true rfl⟩ rfl ⟨Nat.zero_le _, Nat.zero_le _⟩ rfl (Nat.le_of_ble_eq_true rfl) dX9_readAll_26 (fun H locs hw => ?_)
    refine lv_if_eq (tgt := 43) C.1 C.2.1 dX9_readAll_29 (by decide) (fun hc => ?_) (fun hc => ?_)
    · replace hf := ifp hf hc
      refine r_aload0 C hl 0 rfl dX9_readAll_43 ?_
      refine r_get C hw _ (gx_h dO_o) 28 fl_X9_97 rfl dX9_readAll_44 ?_
      refine lv_iconst (v := 1) C.1 C.2.1 dX9_readAll_47 (by decide) ?_
      refine lv_icmp_eq (tgt := 56) C.1 C.2.1 dX9_readAll_48 (by decide) (fun hc => ?_) (fun hc => ?_)
      · replace hf := ifp hf hc
        exact hB_56  d_ad dw hf _ _ hw _ (lv_sub hl [0] rfl)
      · replace hf := ifn hf hc
        refine r_aload0 C hl 0 rfl dX9_readAll_51 ?_
        refine lv_iconst (v := 1) C.1 C.2.1 dX9_readAll_52 (by decide) ?_
        obtain ⟨u8, e8, hf⟩ := bx hf
        refine r_callVv (ws' := (dO G ad u8 dw ++ [])) (As := [.int 1]) (rest := []) C hw hl.1 kX9_flaw ml_X9_131 (c_X9_flaw l G ad _ d_ad dw 1 u8 e8) (CutX.take dO_f CutX.none) _ (gx_h dO_o) rfl ⟨rfl, rfl⟩ ⟨Nat.le_of_ble_eq_true rfl, Nat.le_of_ble_eq_true rfl⟩ rfl ⟨Nat.zero_le _, Nat.zero_le _⟩ rfl (Nat.le_of_ble_eq_true rfl) dX9_readAll_53 (fun H locs hw => ?_)
        exact hB_56  u8 dw hf _ _ hw _ (lv_sub hl [0] rfl)
    · replace hf := ifn hf hc
      refine r_aload0 C hl 0 rfl dX9_readAll_32 ?_
      obtain ⟨u9, e9, hf⟩ := bx hf
      refine r_callVv (ws' := (dO G ad u9.1 u9.2 ++ [])) (As := []) (rest := []) C hw hl.1 kX9_goOn ml_X9_138 (c_X9_goOn l G ad _ d_ad dw u9 e9) (CutX.take dO_f CutX.none) _ (gx_h dO_o) rfl ⟨rfl, rfl⟩ ⟨Nat.le_of_ble_eq_true rfl, Nat.le_of_ble_eq_true rfl⟩ rfl ⟨Nat.zero_le _, Nat.zero_le _⟩ rfl (Nat.le_of_ble_eq_true rfl) dX9_readAll_33 (fun H locs hw => ?_)
      refine r_aload0 C hl 0 rfl dX9_readAll_36 ?_
      obtain ⟨u10, e10, hf⟩ := bx hf
      refine g_callVv (ws' := (dO G ad u10.1 u10.2 ++ [])) (As := []) (rest := []) C hw hl.1 kX9_readLine ml_X9_157 (c_X9_readLine l G K ad _ u9.1 u9.2 u10 e10) blindT (CutX.take dO_f CutX.none) (fun hf U hU hW hp => ⟨hp, hq.pass hw.2.2.2.1 hf hU hW⟩) (va_recv hw.1 hw.2.1 rfl (gx_h dO_o)) ⟨rfl, rfl⟩ ⟨Nat.le_of_ble_eq_true rfl, Nat.le_of_ble_eq_true rfl⟩ rfl ⟨Nat.zero_le _, Nat.zero_le _⟩ rfl (Nat.le_of_ble_eq_true rfl) dX9_readAll_37 (fun H locs hw => ?_)
      refine lv_goto (tgt := 23) C.1 C.2.1 dX9_readAll_40 (by decide) ?_
      exact hk23 u10.1 u10.2 hf _ _ hw _ (lv_sub hl [0] rfl)
  have hL_23 : ∀ n : Nat, ∀ (d_ad : Pic) (dw : Int64), L_X9_readAll_23   n d_ad dw = some out → ∀ (H : Heap) (locs : List Loc), Wd G A s H locs (dO G ad d_ad dw ++ []) → ∀ ls : Array Slot, lv_has ls 1 [(0, .ref (ad 99))] → W p l e ({ frames := 8, cells := 0, slots := 0, locals := 175 }) s m [.ref (ad 99)].toArray below meth c H locs 0 0 (MQ below (Don G A (dO G ad out.1 out.2 ++ [])) [.ref (ad 99)].toArray s 0 0 A) (F0 m 23 ls []) := by
    intro  n
    induction n with
    | zero => intro d_ad dw hf; cases hf
    | succ n ih => exact hB_23 _ ih
  unfold f_X9_readAll at hf
  refine r_aload0 C hl 0 rfl dX9_readAll_0 ?_
  refine lv_iconst (v := 0) C.1 C.2.1 dX9_readAll_1 (by decide) ?_
  obtain ⟨d_ad1, e1, hf⟩ := bx hf
  refine r_put C hw _ (gx_h dO_o) 7 fp_X9_148 rfl rfl (Nat.le_of_ble_eq_true rfl) (dO G ad d_ad1 dw ++ []) (sx_h dO_o (dO_p7 e1)) dX9_readAll_2 (fun H locs hw => ?_)
  refine r_aload0 C hl 0 rfl dX9_readAll_5 ?_
  refine lv_iconst (v := 0) C.1 C.2.1 dX9_readAll_6 (by decide) ?_
  obtain ⟨d_ad2, e2, hf⟩ := bx hf
  refine r_put C hw _ (gx_h dO_o) 10 fp_X9_151 rfl rfl (Nat.le_of_ble_eq_true rfl) (dO G ad d_ad2 dw ++ []) (sx_h dO_o (dO_p10 e2)) dX9_readAll_7 (fun H locs hw => ?_)
  refine r_aload0 C hl 0 rfl dX9_readAll_10 ?_
  refine lv_iconst (v := 0) C.1 C.2.1 dX9_readAll_11 (by decide) ?_
  obtain ⟨d_ad3, e3, hf⟩ := bx hf
  refine r_put C hw _ (gx_h dO_o) 11 fp_X9_154 rfl rfl (Nat.le_of_ble_eq_true rfl) (dO G ad d_ad3 dw ++ []) (sx_h dO_o (dO_p11 e3)) dX9_readAll_12 (fun H locs hw => ?_)
  refine r_aload0 C hl 0 rfl dX9_readAll_15 ?_
  obtain ⟨u4, e4, hf⟩ := bx hf
  refine r_callVv (ws' := (dO G ad u4.1 u4.2 ++ [])) (As := []) (rest := []) C hw hl.1 kX9_goOn ml_X9_138 (c_X9_goOn l G ad _ d_ad3 dw u4 e4) (CutX.take dO_f CutX.none) _ (gx_h dO_o) rfl ⟨rfl, rfl⟩ ⟨Nat.le_of_ble_eq_true rfl, Nat.le_of_ble_eq_true rfl⟩ rfl ⟨Nat.zero_le _, Nat.zero_le _⟩ rfl (Nat.le_of_ble_eq_true rfl) dX9_readAll_16 (fun H locs hw => ?_)
  refine r_aload0 C hl 0 rfl dX9_readAll_19 ?_
  obtain ⟨u5, e5, hf⟩ := bx hf
  refine g_callVv (ws' := (dO G ad u5.1 u5.2 ++ [])) (As := []) (rest := []) C hw hl.1 kX9_readLine ml_X9_157 (c_X9_readLine l G K ad _ u4.1 u4.2 u5 e5) blindT (CutX.take dO_f CutX.none) (fun hf U hU hW hp => ⟨hp, hq.pass hw.2.2.2.1 hf hU hW⟩) (va_recv hw.1 hw.2.1 rfl (gx_h dO_o)) ⟨rfl, rfl⟩ ⟨Nat.le_of_ble_eq_true rfl, Nat.le_of_ble_eq_true rfl⟩ rfl ⟨Nat.zero_le _, Nat.zero_le _⟩ rfl (Nat.le_of_ble_eq_true rfl) dX9_readAll_20 (fun H locs hw => ?_)
  exact hL_23  FU u5.1 u5.2 hf _ _ hw _ (lv_sub hl [0] rfl)
set_option maxHeartbeats 4000000 in
set_option maxRecDepth 100000 in
theorem c_X9_swap (l : Launch) (G : GG) (K : SK) (ad : Nat → Nat) (sz : Nat) (d_ad : Pic) (dw : Int64) (x1 : Int32) (out : Int32 × Pic × Int64) (hf : f_X9_swap d_ad dw x1 = some out) : Met l yX9_swap (.code yX9_swap cX9_swap 2 (some .int) :: BT) ({ frames := 9, cells := 0, slots := 0, locals := 195 }) (va_Pc [.ref (ad 99), .int x1] (PreT G K sz (dO G ad d_ad dw ++ []))) (Ans G out.1 (va_A (dO G ad d_ad dw ++ []) sz) (dO G ad out.2.1 out.2.2 ++ [])) 0 0 (va_A (dO G ad d_ad dw ++ []) sz) := by
  refine Met.intoT (by decide) (Nat.le_of_ble_eq_true rfl) ?_
  intro p e s m below meth c C hsz hq ls hl hw
  have hl : lv_has ls 2 [(0, .ref (ad 99)), (1, .int x1)] := hl
  clear hsz
  generalize va_A (dO G ad d_ad dw ++ []) sz = A at hw hq ⊢
  have hB_17 : ∀ (d_ad : Pic) (dw : Int64), b_X9_swap_17 x1  d_ad dw = some out → ∀ (H : Heap) (locs : List Loc), Wd G A s H locs (dO G ad d_ad dw ++ []) → ∀ ls : Array Slot, lv_has ls 2 [(0, .ref (ad 99))] → W p l e ({ frames := 9, cells := 0, slots := 0, locals := 195 }) s m [.ref (ad 99), .int x1].toArray below meth c H locs 0 0 (MQ below (Ans G out.1 A (dO G ad out.2.1 out.2.2 ++ [])) [.ref (ad 99), .int x1].toArray s 0 0 A) (F0 m 17 ls []) := by
    intro d_ad dw hf H locs hw ls hl
    unfold b_X9_swap_17 at hf
    refine r_aload0 C hl 0 rfl dX9_swap_17 ?_
    refine lv_iconst (v := 2) C.1 C.2.1 dX9_swap_18 (by decide) ?_
    obtain ⟨u2, e2, hf⟩ := bx hf
    refine r_callVi (ws' := (dO G ad u2.2 dw ++ [])) (As := [.int 2]) (rest := []) C hw hl.1 kX9_refused ml_X9_210 (c_X9_refused l G ad _ d_ad dw 2 u2 e2) (CutX.take dO_f CutX.none) _ (gx_h dO_o) rfl ⟨rfl, rfl⟩ ⟨Nat.le_of_ble_eq_true rfl, Nat.le_of_ble_eq_true rfl⟩ rfl ⟨Nat.zero_le _, Nat.zero_le _⟩ rfl (Nat.le_of_ble_eq_true rfl) dX9_swap_19 (fun H locs hw => ?_)
    exact fin_i C hw (Option.some.inj hf) (fun o => o.1) (fun o => (dO G ad o.2.1 o.2.2 ++ [])) rfl rfl dX9_swap_22
  unfold f_X9_swap at hf
  refine r_aload0 C hl 0 rfl dX9_swap_0 ?_
  refine lv_iconst (v := 0) C.1 C.2.1 dX9_swap_1 (by decide) ?_
  obtain ⟨d_ad1, e1, hf⟩ := bx hf
  refine r_put C hw _ (gx_h dO_o) 0 fp_X9_75 rfl rfl (Nat.le_of_ble_eq_true rfl) (dO G ad d_ad1 dw ++ []) (sx_h dO_o (dO_p0 e1)) dX9_swap_2 (fun H locs hw => ?_)
  refine r_iload0 C hl 1 rfl dX9_swap_5 ?_
  refine lv_if_lt (tgt := 17) C.1 C.2.1 dX9_swap_6 (by decide) (fun hc => ?_) (fun hc => ?_)
  · replace hf := ifp hf hc
    exact hB_17  d_ad1 dw hf _ _ hw _ (lv_sub hl [0] rfl)
  · replace hf := ifn hf hc
    refine r_iload0 C hl 1 rfl dX9_swap_9 ?_
    refine r_aload0 C hl 0 rfl dX9_swap_10 ?_
    refine r_get C hw _ (gx_h dO_o) 25 fl_X9_207 rfl dX9_swap_11 ?_
    refine lv_icmp_le (tgt := 23) C.1 C.2.1 dX9_swap_14 (by decide) (fun hc => ?_) (fun hc => ?_)
    · replace hf := ifp hf hc
      refine r_aload0 C hl 0 rfl dX9_swap_23 ?_
      refine r_iload0 C hl 1 rfl dX9_swap_24 ?_
      obtain ⟨d_ad3, e3, hf⟩ := bx hf
      refine r_put C hw _ (gx_h dO_o) 26 fp_X9_81 rfl rfl (Nat.le_of_ble_eq_true rfl) (dO G ad d_ad3 dw ++ []) (sx_h dO_o (dO_p26 e3)) dX9_swap_25 (fun H locs hw => ?_)
      refine r_aload0 C hl 0 rfl dX9_swap_28 ?_
      refine lv_iconst (v := 0) C.1 C.2.1 dX9_swap_29 (by decide) ?_
      obtain ⟨d_ad4, e4, hf⟩ := bx hf
      refine r_put C hw _ (gx_h dO_o) 25 fp_X9_207 rfl rfl (Nat.le_of_ble_eq_true rfl) (dO G ad d_ad4 dw ++ []) (sx_h dO_o (dO_p25 e4)) dX9_swap_30 (fun H locs hw => ?_)
      refine r_aload0 C hl 0 rfl dX9_swap_33 ?_
      refine lv_iconst (v := 0) C.1 C.2.1 dX9_swap_34 (by decide) ?_
      obtain ⟨d_ad5, e5, hf⟩ := bx hf
      refine r_put C hw _ (gx_h dO_o) 27 fp_X9_87 rfl rfl (Nat.le_of_ble_eq_true rfl) (dO G ad d_ad5 dw ++ []) (sx_h dO_o (dO_p27 e5)) dX9_swap_35 (fun H locs hw => ?_)
      refine r_aload0 C hl 0 rfl dX9_swap_38 ?_
      refine lv_iconst (v := 0) C.1 C.2.1 dX9_swap_39 (by decide) ?_
      obtain ⟨d_ad6, e6, hf⟩ := bx hf
      refine r_put C hw _ (gx_h dO_o) 31 fp_X9_84 rfl rfl (Nat.le_of_ble_eq_true rfl) (dO G ad d_ad6 dw ++ []) (sx_h dO_o (dO_p31 e6)) dX9_swap_40 (fun H locs hw => ?_)
      refine r_aload0 C hl 0 rfl dX9_swap_43 ?_
      obtain ⟨u7, e7, hf⟩ := bx hf
      refine g_callVv (ws' := (dO G ad u7.1 u7.2 ++ [])) (As := []) (rest := []) C hw hl.1 kX9_readAll ml_X9_213 (c_X9_readAll l G K ad _ d_ad6 dw u7 e7) blindT (CutX.take dO_f CutX.none) (fun hf U hU hW hp => ⟨hp, hq.pass hw.2.2.2.1 hf hU hW⟩) (va_recv hw.1 hw.2.1 rfl (gx_h dO_o)) ⟨rfl, rfl⟩ ⟨Nat.le_of_ble_eq_true rfl, Nat.le_of_ble_eq_true rfl⟩ rfl ⟨Nat.zero_le _, Nat.zero_le _⟩ rfl (Nat.le_of_ble_eq_true rfl) dX9_swap_44 (fun H locs hw => ?_)
      refine r_aload0 C hl 0 rfl dX9_swap_47 ?_
      refine r_get C hw _ (gx_h dO_o) 31 fl_X9_84 rfl dX9_swap_48 ?_
      refine lv_if_le (tgt := 69) C.1 C.2.1 dX9_swap_51 (by decide) (fun hc => ?_) (fun hc => ?_)
      · replace hf := ifp hf hc
        refine r_aload0 C hl 0 rfl dX9_swap_69 ?_
        obtain ⟨u8, e8, hf⟩ := bx hf
        refine r_callVv (ws' := (dO G ad u8 u7.2 ++ [])) (As := []) (rest := []) C hw hl.1 kX9_takesOver ml_X9_216 (c_X9_takesOver l G ad _ u7.1 u7.2 u8 e8) (CutX.take dO_f CutX.none) _ (gx_h dO_o) rfl ⟨rfl, rfl⟩ ⟨Nat.le_of_ble_eq_true rfl, Nat.le_of_ble_eq_true rfl⟩ rfl ⟨Nat.zero_le _, Nat.zero_le _⟩ rfl (Nat.le_of_ble_eq_true rfl) dX9_swap_70 (fun H locs hw => ?_)
        refine r_aload0 C hl 0 rfl dX9_swap_73 ?_
        refine r_aload0 C hl 0 rfl dX9_swap_74 ?_
        refine r_get C hw _ (gx_h dO_o) 5 fl_X9_219 rfl dX9_swap_75 ?_
        obtain ⟨u9, e9, hf⟩ := bx hf
        refine r_callVi (ws' := (dO G ad u9.2 u7.2 ++ [])) (As := [.int (gS u8 5)]) (rest := []) C hw hl.1 kX9_good ml_X9_222 (c_X9_good l G ad _ u8 u7.2 (gS u8 5) u9 e9) (CutX.take dO_f CutX.none) _ (gx_h dO_o) rfl ⟨rfl, rfl⟩ ⟨Nat.le_of_ble_eq_true rfl, Nat.le_of_ble_eq_true rfl⟩ rfl ⟨Nat.zero_le _, Nat.zero_le _⟩ rfl (Nat.le_of_ble_eq_true rfl) dX9_swap_78 (fun H locs hw => ?_)
        exact fin_i C hw (Option.some.inj hf) (fun o => o.1) (fun o => (dO G ad o.2.1 o.2.2 ++ [])) rfl rfl dX9_swap_81
      · replace hf := ifn hf hc
        refine r_aload0 C hl 0 rfl dX9_swap_54 ?_
        refine lv_iconst (v := 4) C.1 C.2.1 dX9_swap_55 (by decide) ?_
        obtain ⟨d_ad10, e10, hf⟩ := bx hf
        refine r_put C hw _ (gx_h dO_o) 1 fp_X9_78 rfl rfl (Nat.le_of_ble_eq_true rfl) (dO G ad d_ad10 u7.2 ++ []) (sx_h dO_o (dO_p1 e10)) dX9_swap_56 (fun H locs hw => ?_)
        refine r_aload0 C hl 0 rfl dX9_swap_59 ?_
        refine r_aload0 C hl 0 rfl dX9_swap_60 ?_
        refine r_get C hw _ (gx_h dO_o) 29 fl_X9_94 rfl dX9_swap_61 ?_
        obtain ⟨d_ad11, e11, hf⟩ := bx hf
        refine r_put C hw _ (gx_h dO_o) 2 fp_X9_9 rfl rfl (Nat.le_of_ble_eq_true rfl) (dO G ad d_ad11 u7.2 ++ []) (sx_h dO_o (dO_p2 e11)) dX9_swap_64 (fun H locs hw => ?_)
        refine lv_iconst (v := (-1)) C.1 C.2.1 dX9_swap_67 (by decide) ?_
        exact fin_i C hw (Option.some.inj hf) (fun o => o.1) (fun o => (dO G ad o.2.1 o.2.2 ++ [])) rfl rfl dX9_swap_68
    · replace hf := ifn hf hc
      exact hB_17  d_ad1 dw hf _ _ hw _ (lv_sub hl [0] rfl)
