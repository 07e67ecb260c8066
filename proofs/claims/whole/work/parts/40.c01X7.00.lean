set_option maxHeartbeats 4000000 in
set_option maxRecDepth 100000 in
theorem c_X7_clear (l : Launch) (G : GG) (ad : Nat → Nat) (sz : Nat) (z_ad : Pic)  (out : Pic) (hf : f_X7_clear z_ad = some out) : Met l yX7_clear (.code yX7_clear cX7_clear 1 none :: BT) ({ frames := 1, cells := 0, slots := 0, locals := 23 }) (va_Pc [.ref (ad 199)] (PreW G sz (zO G ad z_ad ++ []))) (Don G (va_A (zO G ad z_ad ++ []) sz) (zO G ad out ++ [])) 0 0 (va_A (zO G ad z_ad ++ []) sz) := by
  refine Met.into (by decide) (Nat.le_of_ble_eq_true rfl) ?_
  intro p e s m below meth c C hsz ls hl hw
  have hl : lv_has ls 1 [(0, .ref (ad 199))] := hl
  clear hsz
  generalize va_A (zO G ad z_ad ++ []) sz = A at hw ⊢
  unfold f_X7_clear at hf
  refine r_aload0 C hl 0 rfl dX7_clear_0 ?_
  refine lv_iconst (v := 0) C.1 C.2.1 dX7_clear_1 (by decide) ?_
  obtain ⟨z_ad1, e1, hf⟩ := bx hf
  refine r_put C hw _ (gx_h zO_o) 0 fp_X7_27 rfl rfl (Nat.le_of_ble_eq_true rfl) (zO G ad z_ad1 ++ []) (sx_h zO_o (zO_p0 e1)) dX7_clear_2 (fun H locs hw => ?_)
  refine r_aload0 C hl 0 rfl dX7_clear_5 ?_
  refine r_get C hw _ (gx_h zO_o) 1 fl_X7_9 rfl dX7_clear_6 ?_
  refine lv_iconst (v := 0) C.1 C.2.1 dX7_clear_9 (by decide) ?_
  obtain ⟨z_ad2, e2, hf⟩ := bx hf
  refine r_fill C hw hl.1 ml_X7_31 _ (gx_h zO_g1) (by decide) (zO G ad z_ad2 ++ []) (sx_h zO_g1 (zO_s1 (Option.some.inj e2).symm)) (Nat.le_of_ble_eq_true rfl) (Nat.le_of_ble_eq_true rfl) ⟨Nat.zero_le _, Nat.zero_le _⟩ (Nat.le_of_ble_eq_true rfl) dX7_clear_10 (fun H locs hw => ?_)
  refine r_aload0 C hl 0 rfl dX7_clear_13 ?_
  refine r_get C hw _ (gx_h zO_o) 2 fl_X7_15 rfl dX7_clear_14 ?_
  refine lv_iconst (v := 0) C.1 C.2.1 dX7_clear_17 (by decide) ?_
  obtain ⟨z_ad3, e3, hf⟩ := bx hf
  refine r_fill C hw hl.1 ml_X7_31 _ (gx_h zO_g2) (by decide) (zO G ad z_ad3 ++ []) (sx_h zO_g2 (zO_s2 (Option.some.inj e3).symm)) (Nat.le_of_ble_eq_true rfl) (Nat.le_of_ble_eq_true rfl) ⟨Nat.zero_le _, Nat.zero_le _⟩ (Nat.le_of_ble_eq_true rfl) dX7_clear_18 (fun H locs hw => ?_)
  refine r_aload0 C hl 0 rfl dX7_clear_21 ?_
  refine r_get C hw _ (gx_h zO_o) 3 fl_X7_18 rfl dX7_clear_22 ?_
  refine lv_iconst (v := 0) C.1 C.2.1 dX7_clear_25 (by decide) ?_
  obtain ⟨z_ad4, e4, hf⟩ := bx hf
  refine r_fill C hw hl.1 ml_X7_31 _ (gx_h zO_g3) (by decide) (zO G ad z_ad4 ++ []) (sx_h zO_g3 (zO_s3 (Option.some.inj e4).symm)) (Nat.le_of_ble_eq_true rfl) (Nat.le_of_ble_eq_true rfl) ⟨Nat.zero_le _, Nat.zero_le _⟩ (Nat.le_of_ble_eq_true rfl) dX7_clear_26 (fun H locs hw => ?_)
  refine r_aload0 C hl 0 rfl dX7_clear_29 ?_
  refine r_get C hw _ (gx_h zO_o) 4 fl_X7_21 rfl dX7_clear_30 ?_
  refine lv_iconst (v := 0) C.1 C.2.1 dX7_clear_33 (by decide) ?_
  obtain ⟨z_ad5, e5, hf⟩ := bx hf
  refine r_fill C hw hl.1 ml_X7_31 _ (gx_h zO_g4) (by decide) (zO G ad z_ad5 ++ []) (sx_h zO_g4 (zO_s4 (Option.some.inj e5).symm)) (Nat.le_of_ble_eq_true rfl) (Nat.le_of_ble_eq_true rfl) ⟨Nat.zero_le _, Nat.zero_le _⟩ (Nat.le_of_ble_eq_true rfl) dX7_clear_34 (fun H locs hw => ?_)
  refine r_aload0 C hl 0 rfl dX7_clear_37 ?_
  refine r_get C hw _ (gx_h zO_o) 5 fl_X7_24 rfl dX7_clear_38 ?_
  refine lv_bipush (v := (-2)) C.1 C.2.1 dX7_clear_41 (by decide) ?_
  obtain ⟨z_ad6, e6, hf⟩ := bx hf
  refine r_fill C hw hl.1 ml_X7_31 _ (gx_h zO_g5) (by decide) (zO G ad z_ad6 ++ []) (sx_h zO_g5 (zO_s5 (Option.some.inj e6).symm)) (Nat.le_of_ble_eq_true rfl) (Nat.le_of_ble_eq_true rfl) ⟨Nat.zero_le _, Nat.zero_le _⟩ (Nat.le_of_ble_eq_true rfl) dX7_clear_43 (fun H locs hw => ?_)
  exact fin_v C hw (Option.some.inj hf) (fun o => (zO G ad o ++ [])) rfl dX7_clear_46
set_option maxHeartbeats 4000000 in
set_option maxRecDepth 100000 in
theorem c_X7_copyFrom (l : Launch) (G : GG) (ad : Nat → Nat) (aa : Nat → Nat) (sz : Nat) (z_aa : Pic) (z_ad : Pic)  (out : Pic) (hf : f_X7_copyFrom z_aa z_ad = some out) : Met l yX7_copyFrom (.code yX7_copyFrom cX7_copyFrom 2 none :: BT) ({ frames := 1, cells := 0, slots := 0, locals := 26 }) (va_Pc [.ref (ad 199), .ref (aa 199)] (PreW G sz (zO G aa z_aa ++ (zO G ad z_ad ++ [])))) (Don G (va_A (zO G aa z_aa ++ (zO G ad z_ad ++ [])) sz) (zO G aa z_aa ++ (zO G ad out ++ []))) 0 0 (va_A (zO G aa z_aa ++ (zO G ad z_ad ++ [])) sz) := by
  refine Met.into (by decide) (Nat.le_of_ble_eq_true rfl) ?_
  intro p e s m below meth c C hsz ls hl hw
  have hl : lv_has ls 2 [(0, .ref (ad 199)), (1, .ref (aa 199))] := hl
  clear hsz
  generalize va_A (zO G aa z_aa ++ (zO G ad z_ad ++ [])) sz = A at hw ⊢
  unfold f_X7_copyFrom at hf
  refine r_aload0 C hl 0 rfl dX7_copyFrom_0 ?_
  refine r_aload0 C hl 1 rfl dX7_copyFrom_1 ?_
  refine r_get C hw _ (gx_h zO_o) 0 fl_X7_27 rfl dX7_copyFrom_2 ?_
  obtain ⟨z_ad1, e1, hf⟩ := bx hf
  refine r_put C hw _ (gx_t (gx_h zO_o)) 0 fp_X7_27 rfl rfl (Nat.le_of_ble_eq_true rfl) (zO G aa z_aa ++ (zO G ad z_ad1 ++ [])) (sx_t (sx_h zO_o (zO_p0 e1))) dX7_copyFrom_5 (fun H locs hw => ?_)
  refine r_aload0 C hl 1 rfl dX7_copyFrom_8 ?_
  refine r_get C hw _ (gx_h zO_o) 1 fl_X7_9 rfl dX7_copyFrom_9 ?_
  refine lv_iconst (v := 0) C.1 C.2.1 dX7_copyFrom_12 (by decide) ?_
  refine r_aload0 C hl 0 rfl dX7_copyFrom_13 ?_
  refine r_get C hw _ (gx_t (gx_h zO_o)) 1 fl_X7_9 rfl dX7_copyFrom_14 ?_
  refine lv_iconst (v := 0) C.1 C.2.1 dX7_copyFrom_17 (by decide) ?_
  refine lv_bipush (v := 24) C.1 C.2.1 dX7_copyFrom_18 (by decide) ?_
  obtain ⟨z_ad2, e2, hf⟩ := bx hf
  refine r_copy C hw hl.1 acl_X7_37 _ _ (gx_h zO_g1) (gx_t (gx_h zO_g1)) e2 (zO G aa z_aa ++ (zO G ad z_ad2 ++ [])) (fun h => (sx_t (sx_h zO_g1 (zO_s1 h)))) (Nat.le_of_ble_eq_true rfl) (Nat.le_of_ble_eq_true rfl) dX7_copyFrom_20 (fun H locs hw => ?_)
  refine r_aload0 C hl 1 rfl dX7_copyFrom_23 ?_
  refine r_get C hw _ (gx_h zO_o) 2 fl_X7_15 rfl dX7_copyFrom_24 ?_
  refine lv_iconst (v := 0) C.1 C.2.1 dX7_copyFrom_27 (by decide) ?_
  refine r_aload0 C hl 0 rfl dX7_copyFrom_28 ?_
  refine r_get C hw _ (gx_t (gx_h zO_o)) 2 fl_X7_15 rfl dX7_copyFrom_29 ?_
  refine lv_iconst (v := 0) C.1 C.2.1 dX7_copyFrom_32 (by decide) ?_
  refine lv_bipush (v := 24) C.1 C.2.1 dX7_copyFrom_33 (by decide) ?_
  obtain ⟨z_ad3, e3, hf⟩ := bx hf
  refine r_copy C hw hl.1 acl_X7_37 _ _ (gx_h zO_g2) (gx_t (gx_h zO_g2)) e3 (zO G aa z_aa ++ (zO G ad z_ad3 ++ [])) (fun h => (sx_t (sx_h zO_g2 (zO_s2 h)))) (Nat.le_of_ble_eq_true rfl) (Nat.le_of_ble_eq_true rfl) dX7_copyFrom_35 (fun H locs hw => ?_)
  refine r_aload0 C hl 1 rfl dX7_copyFrom_38 ?_
  refine r_get C hw _ (gx_h zO_o) 3 fl_X7_18 rfl dX7_copyFrom_39 ?_
  refine lv_iconst (v := 0) C.1 C.2.1 dX7_copyFrom_42 (by decide) ?_
  refine r_aload0 C hl 0 rfl dX7_copyFrom_43 ?_
  refine r_get C hw _ (gx_t (gx_h zO_o)) 3 fl_X7_18 rfl dX7_copyFrom_44 ?_
  refine lv_iconst (v := 0) C.1 C.2.1 dX7_copyFrom_47 (by decide) ?_
  refine lv_bipush (v := 24) C.1 C.2.1 dX7_copyFrom_48 (by decide) ?_
  obtain ⟨z_ad4, e4, hf⟩ := bx hf
  refine r_copy C hw hl.1 acl_X7_37 _ _ (gx_h zO_g3) (gx_t (gx_h zO_g3)) e4 (zO G aa z_aa ++ (zO G ad z_ad4 ++ [])) (fun h => (sx_t (sx_h zO_g3 (zO_s3 h)))) (Nat.le_of_ble_eq_true rfl) (Nat.le_of_ble_eq_true rfl) dX7_copyFrom_50 (fun H locs hw => ?_)
  refine r_aload0 C hl 1 rfl dX7_copyFrom_53 ?_
  refine r_get C hw _ (gx_h zO_o) 4 fl_X7_21 rfl dX7_copyFrom_54 ?_
  refine lv_iconst (v := 0) C.1 C.2.1 dX7_copyFrom_57 (by decide) ?_
  refine r_aload0 C hl 0 rfl dX7_copyFrom_58 ?_
  refine r_get C hw _ (gx_t (gx_h zO_o)) 4 fl_X7_21 rfl dX7_copyFrom_59 ?_
  refine lv_iconst (v := 0) C.1 C.2.1 dX7_copyFrom_62 (by decide) ?_
  refine lv_bipush (v := 24) C.1 C.2.1 dX7_copyFrom_63 (by decide) ?_
  obtain ⟨z_ad5, e5, hf⟩ := bx hf
  refine r_copy C hw hl.1 acl_X7_37 _ _ (gx_h zO_g4) (gx_t (gx_h zO_g4)) e5 (zO G aa z_aa ++ (zO G ad z_ad5 ++ [])) (fun h => (sx_t (sx_h zO_g4 (zO_s4 h)))) (Nat.le_of_ble_eq_true rfl) (Nat.le_of_ble_eq_true rfl) dX7_copyFrom_65 (fun H locs hw => ?_)
  refine r_aload0 C hl 1 rfl dX7_copyFrom_68 ?_
  refine r_get C hw _ (gx_h zO_o) 5 fl_X7_24 rfl dX7_copyFrom_69 ?_
  refine lv_iconst (v := 0) C.1 C.2.1 dX7_copyFrom_72 (by decide) ?_
  refine r_aload0 C hl 0 rfl dX7_copyFrom_73 ?_
  refine r_get C hw _ (gx_t (gx_h zO_o)) 5 fl_X7_24 rfl dX7_copyFrom_74 ?_
  refine lv_iconst (v := 0) C.1 C.2.1 dX7_copyFrom_77 (by decide) ?_
  refine lv_sipush (v := 384) C.1 C.2.1 dX7_copyFrom_78 (by decide) ?_
  obtain ⟨z_ad6, e6, hf⟩ := bx hf
  refine r_copy C hw hl.1 acl_X7_37 _ _ (gx_h zO_g5) (gx_t (gx_h zO_g5)) e6 (zO G aa z_aa ++ (zO G ad z_ad6 ++ [])) (fun h => (sx_t (sx_h zO_g5 (zO_s5 h)))) (Nat.le_of_ble_eq_true rfl) (Nat.le_of_ble_eq_true rfl) dX7_copyFrom_81 (fun H locs hw => ?_)
  exact fin_v C hw (Option.some.inj hf) (fun o => (zO G aa z_aa ++ (zO G ad o ++ []))) rfl dX7_copyFrom_84
set_option maxHeartbeats 4000000 in
set_option maxRecDepth 100000 in
theorem c_X7_has (l : Launch) (G : GG) (ad : Nat → Nat) (sz : Nat) (z_ad : Pic) (x1 : Int32) (out : Int32) (hf : f_X7_has z_ad x1 = some out) : Met l yX7_has (.code yX7_has cX7_has 2 (some .boolean) :: BT) ({ frames := 0, cells := 0, slots := 0, locals := 0 }) (va_Pc [.ref (ad 199), .int x1] (PreW G sz (zO G ad z_ad ++ []))) (Ans G out (va_A (zO G ad z_ad ++ []) sz) (zO G ad z_ad ++ [])) 0 0 (va_A (zO G ad z_ad ++ []) sz) := by
  refine Met.into (by decide) (Nat.le_of_ble_eq_true rfl) ?_
  intro p e s m below meth c C hsz ls hl hw
  have hl : lv_has ls 2 [(0, .ref (ad 199)), (1, .int x1)] := hl
  clear hsz
  generalize va_A (zO G ad z_ad ++ []) sz = A at hw ⊢
  unfold f_X7_has at hf
  refine r_iload0 C hl 1 rfl dX7_has_0 ?_
  refine lv_if_lt (tgt := 23) C.1 C.2.1 dX7_has_1 (by decide) (fun hc => ?_) (fun hc => ?_)
  · replace hf := ifp hf hc
    refine lv_iconst (v := 0) C.1 C.2.1 dX7_has_23 (by decide) ?_
    exact fin_z C hw (by decide) (Option.some.inj hf) (fun o => o) (fun o => (zO G ad z_ad ++ [])) rfl rfl dX7_has_24
  · replace hf := ifn hf hc
    refine r_iload0 C hl 1 rfl dX7_has_4 ?_
    refine lv_bipush (v := 24) C.1 C.2.1 dX7_has_5 (by decide) ?_
    refine lv_icmp_ge (tgt := 23) C.1 C.2.1 dX7_has_7 (by decide) (fun hc => ?_) (fun hc => ?_)
    · replace hf := ifp hf hc
      refine lv_iconst (v := 0) C.1 C.2.1 dX7_has_23 (by decide) ?_
      exact fin_z C hw (by decide) (Option.some.inj hf) (fun o => o) (fun o => (zO G ad z_ad ++ [])) rfl rfl dX7_has_24
    · replace hf := ifn hf hc
      refine r_aload0 C hl 0 rfl dX7_has_10 ?_
      refine r_get C hw _ (gx_h zO_o) 1 fl_X7_9 rfl dX7_has_11 ?_
      refine r_iload0 C hl 1 rfl dX7_has_14 ?_
      obtain ⟨v1_, e1, hf⟩ := bx hf
      refine r_iald C hw _ (gx_h zO_g1) e1 dX7_has_15 ?_
      refine lv_if_le (tgt := 23) C.1 C.2.1 dX7_has_16 (by decide) (fun hc => ?_) (fun hc => ?_)
      · replace hf := ifp hf hc
        refine lv_iconst (v := 0) C.1 C.2.1 dX7_has_23 (by decide) ?_
        exact fin_z C hw (by decide) (Option.some.inj hf) (fun o => o) (fun o => (zO G ad z_ad ++ [])) rfl rfl dX7_has_24
      · replace hf := ifn hf hc
        refine lv_iconst (v := 1) C.1 C.2.1 dX7_has_19 (by decide) ?_
        refine lv_goto (tgt := 24) C.1 C.2.1 dX7_has_20 (by decide) ?_
        exact fin_z C hw (by decide) (Option.some.inj hf) (fun o => o) (fun o => (zO G ad z_ad ++ [])) rfl rfl dX7_has_24
set_option maxHeartbeats 4000000 in
set_option maxRecDepth 100000 in
theorem c_X7_countAll (l : Launch) (G : GG) (ad : Nat → Nat) (sz : Nat) (z_ad : Pic)  (out : Int32) (hf : f_X7_countAll z_ad = some out) : Met l yX7_countAll (.code yX7_countAll cX7_countAll 3 (some .int) :: BT) ({ frames := 0, cells := 0, slots := 0, locals := 0 }) (va_Pc [.ref (ad 199)] (PreW G sz (zO G ad z_ad ++ []))) (Ans G out (va_A (zO G ad z_ad ++ []) sz) (zO G ad z_ad ++ [])) 0 0 (va_A (zO G ad z_ad ++ []) sz) := by
  refine Met.into (by decide) (Nat.le_of_ble_eq_true rfl) ?_
  intro p e s m below meth c C hsz ls hl hw
  have hl : lv_has ls 3 [(0, .ref (ad 199))] := hl
  clear hsz
  generalize va_A (zO G ad z_ad ++ []) sz = A at hw ⊢
  have hB_4 : ∀ (k4 : Int32 → Int32 → Option (Int32)) (hk4 : ∀ (v1 : Int32) (v2 : Int32), k4 v1 v2 = some out → ∀ (H : Heap) (locs : List Loc), Wd G A s H locs (zO G ad z_ad ++ []) → ∀ ls : Array Slot, lv_has ls 3 [(0, .ref (ad 199)), (1, .int v1), (2, .int v2)] → W p l e ({ frames := 0, cells := 0, slots := 0, locals := 0 }) s m [.ref (ad 199)].toArray below meth c H locs 0 0 (MQ below (Ans G out A (zO G ad z_ad ++ [])) [.ref (ad 199)].toArray s 0 0 A) (F0 m 4 ls [])), ∀ (v1 : Int32) (v2 : Int32), b_X7_countAll_4 z_ad k4 v1 v2 = some out → ∀ (H : Heap) (locs : List Loc), Wd G A s H locs (zO G ad z_ad ++ []) → ∀ ls : Array Slot, lv_has ls 3 [(0, .ref (ad 199)), (1, .int v1), (2, .int v2)] → W p l e ({ frames := 0, cells := 0, slots := 0, locals := 0 }) s m [.ref (ad 199)].toArray below meth c H locs 0 0 (MQ below (Ans G out A (zO G ad z_ad ++ [])) [.ref (ad 199)].toArray s 0 0 A) (F0 m 4 ls []) := by
    intro k4 hk4 v1 v2 hf H locs hw ls hl
    unfold b_X7_countAll_4 at hf
    refine r_iload0 C hl 2 rfl dX7_countAll_4 ?_
    refine lv_bipush (v := 24) C.1 C.2.1 dX7_countAll_5 (by decide) ?_
    refine lv_icmp_ge (tgt := 33) C.1 C.2.1 dX7_countAll_7 (by decide) (fun hc => ?_) (fun hc => ?_)
    · replace hf := ifp hf hc
      refine r_iload0 C hl 1 rfl dX7_countAll_33 ?_
      exact fin_i C hw (Option.some.inj hf) (fun o => o) (fun o => (zO G ad z_ad ++ [])) rfl rfl dX7_countAll_34
    · replace hf := ifn hf hc
      refine r_iload0 C hl 1 rfl dX7_countAll_10 ?_
      refine r_aload0 C hl 0 rfl dX7_countAll_11 ?_
      refine r_get C hw _ (gx_h zO_o) 1 fl_X7_9 rfl dX7_countAll_12 ?_
      refine r_iload0 C hl 2 rfl dX7_countAll_15 ?_
      obtain ⟨v1_, e1, hf⟩ := bx hf
      refine r_iald C hw _ (gx_h zO_g1) e1 dX7_countAll_16 ?_
      refine lv_if_le (tgt := 24) C.1 C.2.1 dX7_countAll_17 (by decide) (fun hc => ?_) (fun hc => ?_)
      · replace hf := ifp hf hc
        refine lv_iconst (v := 0) C.1 C.2.1 dX7_countAll_24 (by decide) ?_
        refine lv_iadd C.1 C.2.1 dX7_countAll_25 ?_
        refine r_istore0 C hl [(1, .int (v1 + 0)), (0, .ref (ad 199)), (2, .int v2)] (by decide) rfl dX7_countAll_26 (fun ls hl => ?_)
        refine r_iinc C hl 2 (v2 + 1) [(2, .int (v2 + 1)), (1, .int (v1 + 0)), (0, .ref (ad 199))] rfl (iinc_e (by decide)) (by decide) rfl dX7_countAll_27 (fun ls hl => ?_)
        refine lv_goto (tgt := 4) C.1 C.2.1 dX7_countAll_30 (by decide) ?_
        exact hk4 (v1 + 0) (v2 + 1) hf _ _ hw _ (lv_sub hl [2, 1, 0] rfl)
      · replace hf := ifn hf hc
        refine lv_iconst (v := 1) C.1 C.2.1 dX7_countAll_20 (by decide) ?_
        refine lv_goto (tgt := 25) C.1 C.2.1 dX7_countAll_21 (by decide) ?_
        refine lv_iadd C.1 C.2.1 dX7_countAll_25 ?_
        refine r_istore0 C hl [(1, .int (v1 + 1)), (0, .ref (ad 199)), (2, .int v2)] (by decide) rfl dX7_countAll_26 (fun ls hl => ?_)
        refine r_iinc C hl 2 (v2 + 1) [(2, .int (v2 + 1)), (1, .int (v1 + 1)), (0, .ref (ad 199))] rfl (iinc_e (by decide)) (by decide) rfl dX7_countAll_27 (fun ls hl => ?_)
        refine lv_goto (tgt := 4) C.1 C.2.1 dX7_countAll_30 (by decide) ?_
        exact hk4 (v1 + 1) (v2 + 1) hf _ _ hw _ (lv_sub hl [2, 1, 0] rfl)
  have hL_4 : ∀ n : Nat, ∀ (v1 : Int32) (v2 : Int32), L_X7_countAll_4 z_ad  n v1 v2 = some out → ∀ (H : Heap) (locs : List Loc), Wd G A s H locs (zO G ad z_ad ++ []) → ∀ ls : Array Slot, lv_has ls 3 [(0, .ref (ad 199)), (1, .int v1), (2, .int v2)] → W p l e ({ frames := 0, cells := 0, slots := 0, locals := 0 }) s m [.ref (ad 199)].toArray below meth c H locs 0 0 (MQ below (Ans G out A (zO G ad z_ad ++ [])) [.ref (ad 199)].toArray s 0 0 A) (F0 m 4 ls []) := by
    intro  n
    induction n with
    | zero => intro v1 v2 hf; cases hf
    | succ n ih => exact hB_4 _ ih
  unfold f_X7_countAll at hf
  refine lv_iconst (v := 0) C.1 C.2.1 dX7_countAll_0 (by decide) ?_
  refine r_istore0 C hl [(1, .int 0), (0, .ref (ad 199))] (by decide) rfl dX7_countAll_1 (fun ls hl => ?_)
  refine lv_iconst (v := 0) C.1 C.2.1 dX7_countAll_2 (by decide) ?_
  refine r_istore0 C hl [(2, .int 0), (1, .int 0), (0, .ref (ad 199))] (by decide) rfl dX7_countAll_3 (fun ls hl => ?_)
  exact hL_4  FU 0 0 hf _ _ hw _ (lv_sub hl [2, 1, 0] rfl)
set_option maxHeartbeats 4000000 in
set_option maxRecDepth 100000 in
theorem c_X7_countOf (l : Launch) (G : GG) (ad : Nat → Nat) (sz : Nat) (z_ad : Pic) (x1 : Int32) (out : Int32) (hf : f_X7_countOf z_ad x1 = some out) : Met l yX7_countOf (.code yX7_countOf cX7_countOf 4 (some .int) :: BT) ({ frames := 0, cells := 0, slots := 0, locals := 0 }) (va_Pc [.ref (ad 199), .int x1] (PreW G sz (zO G ad z_ad ++ []))) (Ans G out (va_A (zO G ad z_ad ++ []) sz) (zO G ad z_ad ++ [])) 0 0 (va_A (zO G ad z_ad ++ []) sz) := by
  refine Met.into (by decide) (Nat.le_of_ble_eq_true rfl) ?_
  intro p e s m below meth c C hsz ls hl hw
  have hl : lv_has ls 4 [(0, .ref (ad 199)), (1, .int x1)] := hl
  clear hsz
  generalize va_A (zO G ad z_ad ++ []) sz = A at hw ⊢
  have hB_4 : ∀ (k4 : Int32 → Int32 → Option (Int32)) (hk4 : ∀ (v2 : Int32) (v3 : Int32), k4 v2 v3 = some out → ∀ (H : Heap) (locs : List Loc), Wd G A s H locs (zO G ad z_ad ++ []) → ∀ ls : Array Slot, lv_has ls 4 [(0, .ref (ad 199)), (1, .int x1), (2, .int v2), (3, .int v3)] → W p l e ({ frames := 0, cells := 0, slots := 0, locals := 0 }) s m [.ref (ad 199), .int x1].toArray below meth c H locs 0 0 (MQ below (Ans G out A (zO G ad z_ad ++ [])) [.ref (ad 199), .int x1].toArray s 0 0 A) (F0 m 4 ls [])), ∀ (v2 : Int32) (v3 : Int32), b_X7_countOf_4 z_ad x1 k4 v2 v3 = some out → ∀ (H : Heap) (locs : List Loc), Wd G A s H locs (zO G ad z_ad ++ []) → ∀ ls : Array Slot, lv_has ls 4 [(0, .ref (ad 199)), (1, .int x1), (2, .int v2), (3, .int v3)] → W p l e ({ frames := 0, cells := 0, slots := 0, locals := 0 }) s m [.ref (ad 199), .int x1].toArray below meth c H locs 0 0 (MQ below (Ans G out A (zO G ad z_ad ++ [])) [.ref (ad 199), .int x1].toArray s 0 0 A) (F0 m 4 ls []) := by
    intro k4 hk4 v2 v3 hf H locs hw ls hl
    unfold b_X7_countOf_4 at hf
    refine r_iload0 C hl 3 rfl dX7_countOf_4 ?_
    refine lv_bipush (v := 24) C.1 C.2.1 dX7_countOf_5 (by decide) ?_
    refine lv_icmp_ge (tgt := 34) C.1 C.2.1 dX7_countOf_7 (by decide) (fun hc => ?_) (fun hc => ?_)
    · replace hf := ifp hf hc
      refine r_iload0 C hl 2 rfl dX7_countOf_34 ?_
      exact fin_i C hw (Option.some.inj hf) (fun o => o) (fun o => (zO G ad z_ad ++ [])) rfl rfl dX7_countOf_35
    · replace hf := ifn hf hc
      refine r_iload0 C hl 2 rfl dX7_countOf_10 ?_
      refine r_aload0 C hl 0 rfl dX7_countOf_11 ?_
      refine r_get C hw _ (gx_h zO_o) 1 fl_X7_9 rfl dX7_countOf_12 ?_
      refine r_iload0 C hl 3 rfl dX7_countOf_15 ?_
      obtain ⟨v1_, e1, hf⟩ := bx hf
      refine r_iald C hw _ (gx_h zO_g1) e1 dX7_countOf_16 ?_
      refine r_iload0 C hl 1 rfl dX7_countOf_17 ?_
      refine lv_icmp_ne (tgt := 25) C.1 C.2.1 dX7_countOf_18 (by decide) (fun hc => ?_) (fun hc => ?_)
      · replace hf := ifn hf hc
        refine lv_iconst (v := 0) C.1 C.2.1 dX7_countOf_25 (by decide) ?_
        refine lv_iadd C.1 C.2.1 dX7_countOf_26 ?_
        refine r_istore0 C hl [(2, .int (v2 + 0)), (0, .ref (ad 199)), (1, .int x1), (3, .int v3)] (by decide) rfl dX7_countOf_27 (fun ls hl => ?_)
        refine r_iinc C hl 3 (v3 + 1) [(3, .int (v3 + 1)), (2, .int (v2 + 0)), (0, .ref (ad 199)), (1, .int x1)] rfl (iinc_e (by decide)) (by decide) rfl dX7_countOf_28 (fun ls hl => ?_)
        refine lv_goto (tgt := 4) C.1 C.2.1 dX7_countOf_31 (by decide) ?_
        exact hk4 (v2 + 0) (v3 + 1) hf _ _ hw _ (lv_sub hl [2, 3, 1, 0] rfl)
      · replace hf := ifp hf hc
        refine lv_iconst (v := 1) C.1 C.2.1 dX7_countOf_21 (by decide) ?_
        refine lv_goto (tgt := 26) C.1 C.2.1 dX7_countOf_22 (by decide) ?_
        refine lv_iadd C.1 C.2.1 dX7_countOf_26 ?_
        refine r_istore0 C hl [(2, .int (v2 + 1)), (0, .ref (ad 199)), (1, .int x1), (3, .int v3)] (by decide) rfl dX7_countOf_27 (fun ls hl => ?_)
        refine r_iinc C hl 3 (v3 + 1) [(3, .int (v3 + 1)), (2, .int (v2 + 1)), (0, .ref (ad 199)), (1, .int x1)] rfl (iinc_e (by decide)) (by decide) rfl dX7_countOf_28 (fun ls hl => ?_)
        refine lv_goto (tgt := 4) C.1 C.2.1 dX7_countOf_31 (by decide) ?_
        exact hk4 (v2 + 1) (v3 + 1) hf _ _ hw _ (lv_sub hl [2, 3, 1, 0] rfl)
  have hL_4 : ∀ n : Nat, ∀ (v2 : Int32) (v3 : Int32), L_X7_countOf_4 z_ad x1  n v2 v3 = some out → ∀ (H : Heap) (locs : List Loc), Wd G A s H locs (zO G ad z_ad ++ []) → ∀ ls : Array Slot, lv_has ls 4 [(0, .ref (ad 199)), (1, .int x1), (2, .int v2), (3, .int v3)] → W p l e ({ frames := 0, cells := 0, slots := 0, locals := 0 }) s m [.ref (ad 199), .int x1].toArray below meth c H locs 0 0 (MQ below (Ans G out A (zO G ad z_ad ++ [])) [.ref (ad 199), .int x1].toArray s 0 0 A) (F0 m 4 ls []) := by
    intro  n
    induction n with
    | zero => intro v2 v3 hf; cases hf
    | succ n ih => exact hB_4 _ ih
  unfold f_X7_countOf at hf
  refine lv_iconst (v := 0) C.1 C.2.1 dX7_countOf_0 (by decide) ?_
  refine r_istore0 C hl [(2, .int 0), (0, .ref (ad 199)), (1, .int x1)] (by decide) rfl dX7_countOf_1 (fun ls hl => ?_)
  refine lv_iconst (v := 0) C.1 C.2.1 dX7_countOf_2 (by decide) ?_
  refine r_istore0 C hl [(3, .int 0), (2, .int 0), (0, .ref (ad 199)), (1, .int x1)] (by decide) rfl dX7_countOf_3 (fun ls hl => ?_)
  exact hL_4  FU 0 0 hf _ _ hw _ (lv_sub hl [2, 3, 1, 0] rfl)
set_option maxHeartbeats 4000000 in
set_option maxRecDepth 100000 in
theorem c_X7_pagesOf (l : Launch) (G : GG) (ad : Nat → Nat) (sz : Nat) (z_ad : Pic) (x1 : Int32) (out : Int32) (hf : f_X7_pagesOf z_ad x1 = some out) : Met l yX7_pagesOf (.code yX7_pagesOf cX7_pagesOf 4 (some .int) :: BT) ({ frames := 0, cells := 0, slots := 0, locals := 0 }) (va_Pc [.ref (ad 199), .int x1] (PreW G sz (zO G ad z_ad ++ []))) (Ans G out (va_A (zO G ad z_ad ++ []) sz) (zO G ad z_ad ++ [])) 0 0 (va_A (zO G ad z_ad ++ []) sz) := by
  refine Met.into (by decide) (Nat.le_of_ble_eq_true rfl) ?_
  intro p e s m below meth c C hsz ls hl hw
  have hl : lv_has ls 4 [(0, .ref (ad 199)), (1, .int x1)] := hl
  clear hsz
  generalize va_A (zO G ad z_ad ++ []) sz = A at hw ⊢
  have hB_4 : ∀ (k4 : Int32 → Int32 → Option (Int32)) (hk4 : ∀ (v2 : Int32) (v3 : Int32), k4 v2 v3 = some out → ∀ (H : Heap) (locs : List Loc), Wd G A s H locs (zO G ad z_ad ++ []) → ∀ ls : Array Slot, lv_has ls 4 [(0, .ref (ad 199)), (1, .int x1), (2, .int v2), (3, .int v3)] → W p l e ({ frames := 0, cells := 0, slots := 0, locals := 0 }) s m [.ref (ad 199), .int x1].toArray below meth c H locs 0 0 (MQ below (Ans G out A (zO G ad z_ad ++ [])) [.ref (ad 199), .int x1].toArray s 0 0 A) (F0 m 4 ls [])), ∀ (v2 : Int32) (v3 : Int32), b_X7_pagesOf_4 z_ad x1 k4 v2 v3 = some out → ∀ (H : Heap) (locs : List Loc), Wd G A s H locs (zO G ad z_ad ++ []) → ∀ ls : Array Slot, lv_has ls 4 [(0, .ref (ad 199)), (1, .int x1), (2, .int v2), (3, .int v3)] → W p l e ({ frames := 0, cells := 0, slots := 0, locals := 0 }) s m [.ref (ad 199), .int x1].toArray below meth c H locs 0 0 (MQ below (Ans G out A (zO G ad z_ad ++ [])) [.ref (ad 199), .int x1].toArray s 0 0 A) (F0 m 4 ls []) := by
    intro k4 hk4 v2 v3 hf H locs hw ls hl
    unfold b_X7_pagesOf_4 at hf
    refine r_iload0 C hl 3 rfl dX7_pagesOf_4 ?_
    refine lv_bipush (v := 24) C.1 C.2.1 dX7_pagesOf_5 (by decide) ?_
    refine lv_icmp_ge (tgt := 39) C.1 C.2.1 dX7_pagesOf_7 (by decide) (fun hc => ?_) (fun hc => ?_)
    · replace hf := ifp hf hc
      refine r_iload0 C hl 2 rfl dX7_pagesOf_39 ?_
      exact fin_i C hw (Option.some.inj hf) (fun o => o) (fun o => (zO G ad z_ad ++ [])) rfl rfl dX7_pagesOf_40
    · replace hf := ifn hf hc
      refine r_iload0 C hl 2 rfl dX7_pagesOf_10 ?_
      refine r_aload0 C hl 0 rfl dX7_pagesOf_11 ?_
      refine r_get C hw _ (gx_h zO_o) 1 fl_X7_9 rfl dX7_pagesOf_12 ?_
      refine r_iload0 C hl 3 rfl dX7_pagesOf_15 ?_
      obtain ⟨v1_, e1, hf⟩ := bx hf
      refine r_iald C hw _ (gx_h zO_g1) e1 dX7_pagesOf_16 ?_
      refine r_iload0 C hl 1 rfl dX7_pagesOf_17 ?_
      refine lv_icmp_ne (tgt := 30) C.1 C.2.1 dX7_pagesOf_18 (by decide) (fun hc => ?_) (fun hc => ?_)
      · replace hf := ifn hf hc
        refine lv_iconst (v := 0) C.1 C.2.1 dX7_pagesOf_30 (by decide) ?_
        refine lv_iadd C.1 C.2.1 dX7_pagesOf_31 ?_
        refine r_istore0 C hl [(2, .int (v2 + 0)), (0, .ref (ad 199)), (1, .int x1), (3, .int v3)] (by decide) rfl dX7_pagesOf_32 (fun ls hl => ?_)
        refine r_iinc C hl 3 (v3 + 1) [(3, .int (v3 + 1)), (2, .int (v2 + 0)), (0, .ref (ad 199)), (1, .int x1)] rfl (iinc_e (by decide)) (by decide) rfl dX7_pagesOf_33 (fun ls hl => ?_)
        refine lv_goto (tgt := 4) C.1 C.2.1 dX7_pagesOf_36 (by decide) ?_
        exact hk4 (v2 + 0) (v3 + 1) hf _ _ hw _ (lv_sub hl [2, 3, 1, 0] rfl)
      · replace hf := ifp hf hc
        refine r_aload0 C hl 0 rfl dX7_pagesOf_21 ?_
        refine r_get C hw _ (gx_h zO_o) 4 fl_X7_21 rfl dX7_pagesOf_22 ?_
        refine r_iload0 C hl 3 rfl dX7_pagesOf_25 ?_
        obtain ⟨v2_, e2, hf⟩ := bx hf
        refine r_iald C hw _ (gx_h zO_g4) e2 dX7_pagesOf_26 ?_
        refine lv_goto (tgt := 31) C.1 C.2.1 dX7_pagesOf_27 (by decide) ?_
        refine lv_iadd C.1 C.2.1 dX7_pagesOf_31 ?_
        refine r_istore0 C hl [(2, .int (v2 + v2_)), (0, .ref (ad 199)), (1, .int x1), (3, .int v3)] (by decide) rfl dX7_pagesOf_32 (fun ls hl => ?_)
        refine r_iinc C hl 3 (v3 + 1) [(3, .int (v3 + 1)), (2, .int (v2 + v2_)), (0, .ref (ad 199)), (1, .int x1)] rfl (iinc_e (by decide)) (by decide) rfl dX7_pagesOf_33 (fun ls hl => ?_)
        refine lv_goto (tgt := 4) C.1 C.2.1 dX7_pagesOf_36 (by decide) ?_
        exact hk4 (v2 + v2_) (v3 + 1) hf _ _ hw _ (lv_sub hl [2, 3, 1, 0] rfl)
  have hL_4 : ∀ n : Nat, ∀ (v2 : Int32) (v3 : Int32), L_X7_pagesOf_4 z_ad x1  n v2 v3 = some out → ∀ (H : Heap) (locs : List Loc), Wd G A s H locs (zO G ad z_ad ++ []) → ∀ ls : Array Slot, lv_has ls 4 [(0, .ref (ad 199)), (1, .int x1), (2, .int v2), (3, .int v3)] → W p l e ({ frames := 0, cells := 0, slots := 0, locals := 0 }) s m [.ref (ad 199), .int x1].toArray below meth c H locs 0 0 (MQ below (Ans G out A (zO G ad z_ad ++ [])) [.ref (ad 199), .int x1].toArray s 0 0 A) (F0 m 4 ls []) := by
    intro  n
    induction n with
    | zero => intro v2 v3 hf; cases hf
    | succ n ih => exact hB_4 _ ih
  unfold f_X7_pagesOf at hf
  refine lv_iconst (v := 0) C.1 C.2.1 dX7_pagesOf_0 (by decide) ?_
  refine r_istore0 C hl [(2, .int 0), (0, .ref (ad 199)), (1, .int x1)] (by decide) rfl dX7_pagesOf_1 (fun ls hl => ?_)
  refine lv_iconst (v := 0) C.1 C.2.1 dX7_pagesOf_2 (by decide) ?_
  refine r_istore0 C hl [(3, .int 0), (2, .int 0), (0, .ref (ad 199)), (1, .int x1)] (by decide) rfl dX7_pagesOf_3 (fun ls hl => ?_)
  exact hL_4  FU 0 0 hf _ _ hw _ (lv_sub hl [2, 3, 1, 0] rfl)
set_option maxHeartbeats 4000000 in
set_option maxRecDepth 100000 in
theorem c_X7_freeNumber (l : Launch) (G : GG) (ad : Nat → Nat) (sz : Nat) (z_ad : Pic)  (out : Int32) (hf : f_X7_freeNumber z_ad = some out) : Met l yX7_freeNumber (.code yX7_freeNumber cX7_freeNumber 2 (some .int) :: BT) ({ frames := 0, cells := 0, slots := 0, locals := 0 }) (va_Pc [.ref (ad 199)] (PreW G sz (zO G ad z_ad ++ []))) (Ans G out (va_A (zO G ad z_ad ++ []) sz) (zO G ad z_ad ++ [])) 0 0 (va_A (zO G ad z_ad ++ []) sz) := by
  refine Met.into (by decide) (Nat.le_of_ble_eq_true rfl) ?_
  intro p e s m below meth c C hsz ls hl hw
  have hl : lv_has ls 2 [(0, .ref (ad 199))] := hl
  clear hsz
  generalize va_A (zO G ad z_ad ++ []) sz = A at hw ⊢
  have hB_2 : ∀ (k2 : Int32 → Option (Int32)) (hk2 : ∀ (v1 : Int32), k2 v1 = some out → ∀ (H : Heap) (locs : List Loc), Wd G A s H locs (zO G ad z_ad ++ []) → ∀ ls : Array Slot, lv_has ls 2 [(0, .ref (ad 199)), (1, .int v1)] → W p l e ({ frames := 0, cells := 0, slots := 0, locals := 0 }) s m [.ref (ad 199)].toArray below meth c H locs 0 0 (MQ below (Ans G out A (zO G ad z_ad ++ [])) [.ref (ad 199)].toArray s 0 0 A) (F0 m 2 ls [])), ∀ (v1 : Int32), b_X7_freeNumber_2 z_ad k2 v1 = some out → ∀ (H : Heap) (locs : List Loc), Wd G A s H locs (zO G ad z_ad ++ []) → ∀ ls : Array Slot, lv_has ls 2 [(0, .ref (ad 199)), (1, .int v1)] → W p l e ({ frames := 0, cells := 0, slots := 0, locals := 0 }) s m [.ref (ad 199)].toArray below meth c H locs 0 0 (MQ below (Ans G out A (zO G ad z_ad ++ [])) [.ref (ad 199)].toArray s 0 0 A) (F0 m 2 ls []) := by
    intro k2 hk2 v1 hf H locs hw ls hl
    unfold b_X7_freeNumber_2 at hf
    refine r_iload0 C hl 1 rfl dX7_freeNumber_2 ?_
    refine lv_bipush (v := 24) C.1 C.2.1 dX7_freeNumber_3 (by decide) ?_
    refine lv_icmp_ge (tgt := 25) C.1 C.2.1 dX7_freeNumber_5 (by decide) (fun hc => ?_) (fun hc => ?_)
    · replace hf := ifp hf hc
      refine lv_iconst (v := (-1)) C.1 C.2.1 dX7_freeNumber_25 (by decide) ?_
      exact fin_i C hw (Option.some.inj hf) (fun o => o) (fun o => (zO G ad z_ad ++ [])) rfl rfl dX7_freeNumber_26
    · replace hf := ifn hf hc
      refine r_aload0 C hl 0 rfl dX7_freeNumber_8 ?_
      refine r_get C hw _ (gx_h zO_o) 1 fl_X7_9 rfl dX7_freeNumber_9 ?_
      refine r_iload0 C hl 1 rfl dX7_freeNumber_12 ?_
      obtain ⟨v1_, e1, hf⟩ := bx hf
      refine r_iald C hw _ (gx_h zO_g1) e1 dX7_freeNumber_13 ?_
      refine lv_if_ne (tgt := 19) C.1 C.2.1 dX7_freeNumber_14 (by decide) (fun hc => ?_) (fun hc => ?_)
      · replace hf := ifn hf hc
        refine r_iinc C hl 1 (v1 + 1) [(1, .int (v1 + 1)), (0, .ref (ad 199))] rfl (iinc_e (by decide)) (by decide) rfl dX7_freeNumber_19 (fun ls hl => ?_)
        refine lv_goto (tgt := 2) C.1 C.2.1 dX7_freeNumber_22 (by decide) ?_
        exact hk2 (v1 + 1) hf _ _ hw _ (lv_sub hl [1, 0] rfl)
      · replace hf := ifp hf hc
        refine r_iload0 C hl 1 rfl dX7_freeNumber_17 ?_
        exact fin_i C hw (Option.some.inj hf) (fun o => o) (fun o => (zO G ad z_ad ++ [])) rfl rfl dX7_freeNumber_18
  have hL_2 : ∀ n : Nat, ∀ (v1 : Int32), L_X7_freeNumber_2 z_ad  n v1 = some out → ∀ (H : Heap) (locs : List Loc), Wd G A s H locs (zO G ad z_ad ++ []) → ∀ ls : Array Slot, lv_has ls 2 [(0, .ref (ad 199)), (1, .int v1)] → W p l e ({ frames := 0, cells := 0, slots := 0, locals := 0 }) s m [.ref (ad 199)].toArray below meth c H locs 0 0 (MQ below (Ans G out A (zO G ad z_ad ++ [])) [.ref (ad 199)].toArray s 0 0 A) (F0 m 2 ls []) := by
    intro  n
    induction n with
    | zero => intro v1 hf; cases hf
    | succ n ih => exact hB_2 _ ih
  unfold f_X7_freeNumber at hf
  refine lv_iconst (v := 0) C.1 C.2.1 dX7_freeNumber_0 (by decide) ?_
  refine r_istore0 C hl [(1, .int 0), (0, .ref (ad 199))] (by decide) rfl dX7_freeNumber_1 (fun ls hl => ?_)
  exact hL_2  FU 0 hf _ _ hw _ (lv_sub hl [1, 0] rfl)
set_option maxHeartbeats 4000000 in
set_option maxRecDepth 100000 in
theorem c_X7_lastPage (l : Launch) (G : GG) (ad : Nat → Nat) (sz : Nat) (z_ad : Pic) (x1 : Int32) (out : Int32) (hf : f_X7_lastPage z_ad x1 = some out) : Met l yX7_lastPage (.code yX7_lastPage cX7_lastPage 3 (some .int) :: BT) ({ frames := 1, cells := 0, slots := 0, locals := 21 }) (va_Pc [.ref (ad 199), .int x1] (PreW G sz (zO G ad z_ad ++ []))) (Ans G out (va_A (zO G ad z_ad ++ []) sz) (zO G ad z_ad ++ [])) 0 0 (va_A (zO G ad z_ad ++ []) sz) := by
  refine Met.into (by decide) (Nat.le_of_ble_eq_true rfl) ?_
  intro p e s m below meth c C hsz ls hl hw
  have hl : lv_has ls 3 [(0, .ref (ad 199)), (1, .int x1)] := hl
  clear hsz
  generalize va_A (zO G ad z_ad ++ []) sz = A at hw ⊢
  have hB_3 : ∀ (k3 : Int32 → Option (Int32)) (hk3 : ∀ (v2 : Int32), k3 v2 = some out → ∀ (H : Heap) (locs : List Loc), Wd G A s H locs (zO G ad z_ad ++ []) → ∀ ls : Array Slot, lv_has ls 3 [(0, .ref (ad 199)), (1, .int x1), (2, .int v2)] → W p l e ({ frames := 1, cells := 0, slots := 0, locals := 21 }) s m [.ref (ad 199), .int x1].toArray below meth c H locs 0 0 (MQ below (Ans G out A (zO G ad z_ad ++ [])) [.ref (ad 199), .int x1].toArray s 0 0 A) (F0 m 3 ls [])), ∀ (v2 : Int32), b_X7_lastPage_3 z_ad x1 k3 v2 = some out → ∀ (H : Heap) (locs : List Loc), Wd G A s H locs (zO G ad z_ad ++ []) → ∀ ls : Array Slot, lv_has ls 3 [(0, .ref (ad 199)), (1, .int x1), (2, .int v2)] → W p l e ({ frames := 1, cells := 0, slots := 0, locals := 21 }) s m [.ref (ad 199), .int x1].toArray below meth c H locs 0 0 (MQ below (Ans G out A (zO G ad z_ad ++ [])) [.ref (ad 199), .int x1].toArray s 0 0 A) (F0 m 3 ls []) := by
    intro k3 hk3 v2 hf H locs hw ls hl
    unfold b_X7_lastPage_3 at hf
    refine r_iload0 C hl 2 rfl dX7_lastPage_3 ?_
    refine lv_if_lt (tgt := 47) C.1 C.2.1 dX7_lastPage_4 (by decide) (fun hc => ?_) (fun hc => ?_)
    · replace hf := ifp hf hc
      refine lv_iconst (v := (-1)) C.1 C.2.1 dX7_lastPage_47 (by decide) ?_
      exact fin_i C hw (Option.some.inj hf) (fun o => o) (fun o => (zO G ad z_ad ++ [])) rfl rfl dX7_lastPage_48
    · replace hf := ifn hf hc
      refine r_aload0 C hl 0 rfl dX7_lastPage_7 ?_
      refine r_iload0 C hl 1 rfl dX7_lastPage_8 ?_
      obtain ⟨u1, e1, hf⟩ := bx hf
      refine r_callVi (ws' := (zO G ad z_ad ++ [])) (As := [.int x1]) (rest := []) C hw hl.1 kX7_has ml_X7_47 (c_X7_has l G ad _ z_ad x1 u1 e1) (CutX.take zO_f CutX.none) _ (gx_h zO_o) rfl ⟨rfl, rfl⟩ ⟨Nat.le_of_ble_eq_true rfl, Nat.le_of_ble_eq_true rfl⟩ rfl ⟨Nat.zero_le _, Nat.zero_le _⟩ rfl (Nat.le_of_ble_eq_true rfl) dX7_lastPage_9 (fun H locs hw => ?_)
      refine lv_if_eq (tgt := 47) C.1 C.2.1 dX7_lastPage_12 (by decide) (fun hc => ?_) (fun hc => ?_)
      · replace hf := ifp hf hc
        refine lv_iconst (v := (-1)) C.1 C.2.1 dX7_lastPage_47 (by decide) ?_
        exact fin_i C hw (Option.some.inj hf) (fun o => o) (fun o => (zO G ad z_ad ++ [])) rfl rfl dX7_lastPage_48
      · replace hf := ifn hf hc
        refine r_aload0 C hl 0 rfl dX7_lastPage_15 ?_
        refine r_get C hw _ (gx_h zO_o) 5 fl_X7_24 rfl dX7_lastPage_16 ?_
        refine r_iload0 C hl 1 rfl dX7_lastPage_19 ?_
        refine lv_bipush (v := 16) C.1 C.2.1 dX7_lastPage_20 (by decide) ?_
        refine lv_imul C.1 C.2.1 dX7_lastPage_22 ?_
        refine r_iload0 C hl 2 rfl dX7_lastPage_23 ?_
        refine lv_iadd C.1 C.2.1 dX7_lastPage_24 ?_
        obtain ⟨v2_, e2, hf⟩ := bx hf
        refine r_iald C hw _ (gx_h zO_g5) e2 dX7_lastPage_25 ?_
        refine lv_if_lt (tgt := 41) C.1 C.2.1 dX7_lastPage_26 (by decide) (fun hc => ?_) (fun hc => ?_)
        · replace hf := ifp hf hc
          refine r_iinc C hl 2 (v2 + (-1)) [(2, .int (v2 + (-1))), (0, .ref (ad 199)), (1, .int x1)] rfl (iinc_e (by decide)) (by decide) rfl dX7_lastPage_41 (fun ls hl => ?_)
          refine lv_goto (tgt := 3) C.1 C.2.1 dX7_lastPage_44 (by decide) ?_
          exact hk3 (v2 + (-1)) hf _ _ hw _ (lv_sub hl [1, 2, 0] rfl)
        · replace hf := ifn hf hc
          refine r_aload0 C hl 0 rfl dX7_lastPage_29 ?_
          refine r_get C hw _ (gx_h zO_o) 5 fl_X7_24 rfl dX7_lastPage_30 ?_
          refine r_iload0 C hl 1 rfl dX7_lastPage_33 ?_
          refine lv_bipush (v := 16) C.1 C.2.1 dX7_lastPage_34 (by decide) ?_
          refine lv_imul C.1 C.2.1 dX7_lastPage_36 ?_
          refine r_iload0 C hl 2 rfl dX7_lastPage_37 ?_
          refine lv_iadd C.1 C.2.1 dX7_lastPage_38 ?_
          obtain ⟨v3_, e3, hf⟩ := bx hf
          refine r_iald C hw _ (gx_h zO_g5) e3 dX7_lastPage_39 ?_
          exact fin_i C hw (Option.some.inj hf) (fun o => o) (fun o => (zO G ad z_ad ++ [])) rfl rfl dX7_lastPage_40
  have hL_3 : ∀ n : Nat, ∀ (v2 : Int32), L_X7_lastPage_3 z_ad x1  n v2 = some out → ∀ (H : Heap) (locs : List Loc), Wd G A s H locs (zO G ad z_ad ++ []) → ∀ ls : Array Slot, lv_has ls 3 [(0, .ref (ad 199)), (1, .int x1), (2, .int v2)] → W p l e ({ frames := 1, cells := 0, slots := 0, locals := 21 }) s m [.ref (ad 199), .int x1].toArray below meth c H locs 0 0 (MQ below (Ans G out A (zO G ad z_ad ++ [])) [.ref (ad 199), .int x1].toArray s 0 0 A) (F0 m 3 ls []) := by
    intro  n
    induction n with
    | zero => intro v2 hf; cases hf
    | succ n ih => exact hB_3 _ ih
  unfold f_X7_lastPage at hf
  refine lv_bipush (v := 15) C.1 C.2.1 dX7_lastPage_0 (by decide) ?_
  refine r_istore0 C hl [(2, .int 15), (0, .ref (ad 199)), (1, .int x1)] (by decide) rfl dX7_lastPage_2 (fun ls hl => ?_)
  exact hL_3  FU 15 hf _ _ hw _ (lv_sub hl [1, 2, 0] rfl)
set_option maxHeartbeats 4000000 in
set_option maxRecDepth 100000 in
theorem c_X7_putIn (l : Launch) (G : GG) (ad : Nat → Nat) (sz : Nat) (z_ad : Pic) (x1 : Int32) (x2 : Int32) (x3 : Int32) (out : Int32 × Pic) (hf : f_X7_putIn z_ad x1 x2 x3 = some out) : Met l yX7_putIn (.code yX7_putIn cX7_putIn 5 (some .int) :: BT) ({ frames := 2, cells := 0, slots := 0, locals := 42 }) (va_Pc [.ref (ad 199), .int x1, .int x2, .int x3] (PreW G sz (zO G ad z_ad ++ []))) (Ans G out.1 (va_A (zO G ad z_ad ++ []) sz) (zO G ad out.2 ++ [])) 0 0 (va_A (zO G ad z_ad ++ []) sz) := by
  refine Met.into (by decide) (Nat.le_of_ble_eq_true rfl) ?_
  intro p e s m below meth c C hsz ls hl hw
  have hl : lv_has ls 5 [(0, .ref (ad 199)), (1, .int x1), (2, .int x2), (3, .int x3)] := hl
  clear hsz
  generalize va_A (zO G ad z_ad ++ []) sz = A at hw ⊢
  have hB_66 : ∀ (k66 : Pic → Int32 → Option (Int32 × Pic)) (hk66 : ∀ (z_ad : Pic) (v4 : Int32), k66 z_ad v4 = some out → ∀ (H : Heap) (locs : List Loc), Wd G A s H locs (zO G ad z_ad ++ []) → ∀ ls : Array Slot, lv_has ls 5 [(0, .ref (ad 199)), (1, .int x1), (3, .int x3), (4, .int v4)] → W p l e ({ frames := 2, cells := 0, slots := 0, locals := 42 }) s m [.ref (ad 199), .int x1, .int x2, .int x3].toArray below meth c H locs 0 0 (MQ below (Ans G out.1 A (zO G ad out.2 ++ [])) [.ref (ad 199), .int x1, .int x2, .int x3].toArray s 0 0 A) (F0 m 66 ls [])), ∀ (z_ad : Pic) (v4 : Int32), b_X7_putIn_66 x1 x2 x3 k66 z_ad v4 = some out → ∀ (H : Heap) (locs : List Loc), Wd G A s H locs (zO G ad z_ad ++ []) → ∀ ls : Array Slot, lv_has ls 5 [(0, .ref (ad 199)), (1, .int x1), (3, .int x3), (4, .int v4)] → W p l e ({ frames := 2, cells := 0, slots := 0, locals := 42 }) s m [.ref (ad 199), .int x1, .int x2, .int x3].toArray below meth c H locs 0 0 (MQ below (Ans G out.1 A (zO G ad out.2 ++ [])) [.ref (ad 199), .int x1, .int x2, .int x3].toArray s 0 0 A) (F0 m 66 ls []) := by
    intro k66 hk66 z_ad v4 hf H locs hw ls hl
    unfold b_X7_putIn_66 at hf
    refine r_iload C hl 3 rfl dX7_putIn_66 ?_
    refine r_aload0 C hl 0 rfl dX7_putIn_68 ?_
    refine r_get C hw _ (gx_h zO_o) 3 fl_X7_18 rfl dX7_putIn_69 ?_
    refine r_iload0 C hl 1 rfl dX7_putIn_72 ?_
    obtain ⟨v2_, e2, hf⟩ := bx hf
    refine r_iald C hw _ (gx_h zO_g3) e2 dX7_putIn_73 ?_
    refine lv_icmp_ge (tgt := 131) C.1 C.2.1 dX7_putIn_74 (by decide) (fun hc => ?_) (fun hc => ?_)
    · replace hf := ifp hf hc
      refine lv_iconst (v := (-1)) C.1 C.2.1 dX7_putIn_131 (by decide) ?_
      exact fin_i C hw (Option.some.inj hf) (fun o => o.1) (fun o => (zO G ad o.2 ++ [])) rfl rfl dX7_putIn_132
    · replace hf := ifn hf hc
      refine r_iload C hl 3 rfl dX7_putIn_77 ?_
      refine lv_bipush (v := 16) C.1 C.2.1 dX7_putIn_79 (by decide) ?_
      refine lv_icmp_ge (tgt := 131) C.1 C.2.1 dX7_putIn_81 (by decide) (fun hc => ?_) (fun hc => ?_)
      · replace hf := ifp hf hc
        refine lv_iconst (v := (-1)) C.1 C.2.1 dX7_putIn_131 (by decide) ?_
        exact fin_i C hw (Option.some.inj hf) (fun o => o.1) (fun o => (zO G ad o.2 ++ [])) rfl rfl dX7_putIn_132
      · replace hf := ifn hf hc
        refine r_aload0 C hl 0 rfl dX7_putIn_84 ?_
        refine r_get C hw _ (gx_h zO_o) 5 fl_X7_24 rfl dX7_putIn_85 ?_
        refine r_iload0 C hl 1 rfl dX7_putIn_88 ?_
        refine lv_bipush (v := 16) C.1 C.2.1 dX7_putIn_89 (by decide) ?_
        refine lv_imul C.1 C.2.1 dX7_putIn_91 ?_
        refine r_iload C hl 3 rfl dX7_putIn_92 ?_
        refine lv_iadd C.1 C.2.1 dX7_putIn_94 ?_
        obtain ⟨v3_, e3, hf⟩ := bx hf
        refine r_iald C hw _ (gx_h zO_g5) e3 dX7_putIn_95 ?_
        refine lv_if_ge (tgt := 125) C.1 C.2.1 dX7_putIn_96 (by decide) (fun hc => ?_) (fun hc => ?_)
        · replace hf := ifp hf hc
          refine r_iinc C hl 3 (v4 + 1) [(4, .int (v4 + 1)), (0, .ref (ad 199)), (1, .int x1), (3, .int x3)] rfl (iinc_e (by decide)) (by decide) rfl dX7_putIn_125 (fun ls hl => ?_)
          refine lv_goto (tgt := 66) C.1 C.2.1 dX7_putIn_128 (by decide) ?_
          exact hk66 z_ad (v4 + 1) hf _ _ hw _ (lv_sub hl [1, 2, 3, 0] rfl)
        · replace hf := ifn hf hc
          refine r_aload0 C hl 0 rfl dX7_putIn_99 ?_
          refine r_get C hw _ (gx_h zO_o) 5 fl_X7_24 rfl dX7_putIn_100 ?_
          refine r_iload0 C hl 1 rfl dX7_putIn_103 ?_
          refine lv_bipush (v := 16) C.1 C.2.1 dX7_putIn_104 (by decide) ?_
          refine lv_imul C.1 C.2.1 dX7_putIn_106 ?_
          refine r_iload C hl 3 rfl dX7_putIn_107 ?_
          refine lv_iadd C.1 C.2.1 dX7_putIn_109 ?_
          refine r_iload0 C hl 2 rfl dX7_putIn_110 ?_
          obtain ⟨z_ad4, e4, hf⟩ := bx hf
          refine r_iast C hw _ (gx_h zO_g5) e4 (zO G ad z_ad4 ++ []) (fun h => (sx_h zO_g5 (zO_s5 h))) dX7_putIn_111 (fun H locs hw => ?_)
          refine r_aload0 C hl 0 rfl dX7_putIn_112 ?_
          refine r_get C hw _ (gx_h zO_o) 4 fl_X7_21 rfl dX7_putIn_113 ?_
          refine r_iload0 C hl 1 rfl dX7_putIn_116 ?_
          refine lv_dup2_11 C.1 C.2.1 dX7_putIn_117 rfl rfl ?_
          obtain ⟨v5_, e5, hf⟩ := bx hf
          refine r_iald C hw _ (gx_h zO_g4) e5 dX7_putIn_118 ?_
          refine lv_iconst (v := 1) C.1 C.2.1 dX7_putIn_119 (by decide) ?_
          refine lv_iadd C.1 C.2.1 dX7_putIn_120 ?_
          obtain ⟨z_ad6, e6, hf⟩ := bx hf
          refine r_iast C hw _ (gx_h zO_g4) e6 (zO G ad z_ad6 ++ []) (fun h => (sx_h zO_g4 (zO_s4 h))) dX7_putIn_121 (fun H locs hw => ?_)
          refine r_iload C hl 3 rfl dX7_putIn_122 ?_
          exact fin_i C hw (Option.some.inj hf) (fun o => o.1) (fun o => (zO G ad o.2 ++ [])) rfl rfl dX7_putIn_124
  have hL_66 : ∀ n : Nat, ∀ (z_ad : Pic) (v4 : Int32), L_X7_putIn_66 x1 x2 x3  n z_ad v4 = some out → ∀ (H : Heap) (locs : List Loc), Wd G A s H locs (zO G ad z_ad ++ []) → ∀ ls : Array Slot, lv_has ls 5 [(0, .ref (ad 199)), (1, .int x1), (3, .int x3), (4, .int v4)] → W p l e ({ frames := 2, cells := 0, slots := 0, locals := 42 }) s m [.ref (ad 199), .int x1, .int x2, .int x3].toArray below meth c H locs 0 0 (MQ below (Ans G out.1 A (zO G ad out.2 ++ [])) [.ref (ad 199), .int x1, .int x2, .int x3].toArray s 0 0 A) (F0 m 66 ls []) := by
    intro  n
    induction n with
    | zero => intro z_ad v4 hf; cases hf
    | succ n ih => exact hB_66 _ ih
  unfold f_X7_putIn at hf
  refine r_iload0 C hl 1 rfl dX7_putIn_0 ?_
  refine lv_if_lt (tgt := 10) C.1 C.2.1 dX7_putIn_1 (by decide) (fun hc => ?_) (fun hc => ?_)
  · replace hf := ifp hf hc
    refine lv_iconst (v := (-1)) C.1 C.2.1 dX7_putIn_10 (by decide) ?_
    exact fin_i C hw (Option.some.inj hf) (fun o => o.1) (fun o => (zO G ad o.2 ++ [])) rfl rfl dX7_putIn_11
  · replace hf := ifn hf hc
    refine r_iload0 C hl 1 rfl dX7_putIn_4 ?_
    refine lv_bipush (v := 24) C.1 C.2.1 dX7_putIn_5 (by decide) ?_
    refine lv_icmp_lt (tgt := 12) C.1 C.2.1 dX7_putIn_7 (by decide) (fun hc => ?_) (fun hc => ?_)
    · replace hf := ifp hf hc
      refine r_aload0 C hl 0 rfl dX7_putIn_12 ?_
      refine r_get C hw _ (gx_h zO_o) 1 fl_X7_9 rfl dX7_putIn_13 ?_
      refine r_iload0 C hl 1 rfl dX7_putIn_16 ?_
      obtain ⟨v1_, e1, hf⟩ := bx hf
      refine r_iald C hw _ (gx_h zO_g1) e1 dX7_putIn_17 ?_
      refine lv_if_ne (tgt := 63) C.1 C.2.1 dX7_putIn_18 (by decide) (fun hc => ?_) (fun hc => ?_)
      · replace hf := ifn hf hc
        refine lv_iconst (v := 0) C.1 C.2.1 dX7_putIn_63 (by decide) ?_
        refine r_istore C hl [(4, .int 0), (0, .ref (ad 199)), (1, .int x1), (2, .int x2), (3, .int x3)] (by decide) rfl dX7_putIn_64 (fun ls hl => ?_)
        exact hL_66  FU z_ad 0 hf _ _ hw _ (lv_sub hl [1, 2, 4, 0] rfl)
      · replace hf := ifp hf hc
        refine r_aload0 C hl 0 rfl dX7_putIn_21 ?_
        refine r_get C hw _ (gx_h zO_o) 1 fl_X7_9 rfl dX7_putIn_22 ?_
        refine r_iload0 C hl 1 rfl dX7_putIn_25 ?_
        refine r_iload0 C hl 2 rfl dX7_putIn_26 ?_
        obtain ⟨z_ad7, e7, hf⟩ := bx hf
        refine r_iast C hw _ (gx_h zO_g1) e7 (zO G ad z_ad7 ++ []) (fun h => (sx_h zO_g1 (zO_s1 h))) dX7_putIn_27 (fun H locs hw => ?_)
        refine r_aload0 C hl 0 rfl dX7_putIn_28 ?_
        refine r_get C hw _ (gx_h zO_o) 2 fl_X7_15 rfl dX7_putIn_29 ?_
        refine r_iload0 C hl 1 rfl dX7_putIn_32 ?_
        refine r_iload0 C hl 2 rfl dX7_putIn_33 ?_
        obtain ⟨u8, e8, hf⟩ := bx hf
        refine r_callSi (ws' := (zO G ad z_ad7 ++ [])) (As := [.int x2]) (rest := [.int x1, .ref (ad 102)]) C hw hl.1 kX0_framesOf ml_X7_51 (c_X0_framesOf l G _ x2 u8 e8) CutX.none ⟨rfl, rfl⟩ ⟨Nat.le_of_ble_eq_true rfl, Nat.le_of_ble_eq_true rfl⟩ rfl ⟨Nat.zero_le _, Nat.zero_le _⟩ rfl (Nat.le_of_ble_eq_true rfl) dX7_putIn_34 (fun H locs hw => ?_)
        obtain ⟨z_ad9, e9, hf⟩ := bx hf
        refine r_iast C hw _ (gx_h zO_g2) e9 (zO G ad z_ad9 ++ []) (fun h => (sx_h zO_g2 (zO_s2 h))) dX7_putIn_37 (fun H locs hw => ?_)
        refine r_aload0 C hl 0 rfl dX7_putIn_38 ?_
        refine r_get C hw _ (gx_h zO_o) 3 fl_X7_18 rfl dX7_putIn_39 ?_
        refine r_iload0 C hl 1 rfl dX7_putIn_42 ?_
        refine r_iload0 C hl 2 rfl dX7_putIn_43 ?_
        obtain ⟨u10, e10, hf⟩ := bx hf
        refine r_callSi (ws' := (zO G ad z_ad9 ++ [])) (As := [.int x2]) (rest := [.int x1, .ref (ad 103)]) C hw hl.1 kX0_slotsOf ml_X7_57 (c_X0_slotsOf l G _ x2 u10 e10) CutX.none ⟨rfl, rfl⟩ ⟨Nat.le_of_ble_eq_true rfl, Nat.le_of_ble_eq_true rfl⟩ rfl ⟨Nat.zero_le _, Nat.zero_le _⟩ rfl (Nat.le_of_ble_eq_true rfl) dX7_putIn_44 (fun H locs hw => ?_)
        obtain ⟨z_ad11, e11, hf⟩ := bx hf
        refine r_iast C hw _ (gx_h zO_g3) e11 (zO G ad z_ad11 ++ []) (fun h => (sx_h zO_g3 (zO_s3 h))) dX7_putIn_47 (fun H locs hw => ?_)
        refine r_aload0 C hl 0 rfl dX7_putIn_48 ?_
        refine lv_dup C.1 C.2.1 dX7_putIn_49 rfl ?_
        refine r_get C hw _ (gx_h zO_o) 0 fl_X7_27 rfl dX7_putIn_50 ?_
        refine r_aload0 C hl 0 rfl dX7_putIn_53 ?_
        refine r_get C hw _ (gx_h zO_o) 2 fl_X7_15 rfl dX7_putIn_54 ?_
        refine r_iload0 C hl 1 rfl dX7_putIn_57 ?_
        obtain ⟨v12_, e12, hf⟩ := bx hf
        refine r_iald C hw _ (gx_h zO_g2) e12 dX7_putIn_58 ?_
        refine lv_iadd C.1 C.2.1 dX7_putIn_59 ?_
        obtain ⟨z_ad13, e13, hf⟩ := bx hf
        refine r_put C hw _ (gx_h zO_o) 0 fp_X7_27 rfl rfl (Nat.le_of_ble_eq_true rfl) (zO G ad z_ad13 ++ []) (sx_h zO_o (zO_p0 e13)) dX7_putIn_60 (fun H locs hw => ?_)
        refine lv_iconst (v := 0) C.1 C.2.1 dX7_putIn_63 (by decide) ?_
        refine r_istore C hl [(4, .int 0), (0, .ref (ad 199)), (1, .int x1), (2, .int x2), (3, .int x3)] (by decide) rfl dX7_putIn_64 (fun ls hl => ?_)
        exact hL_66  FU z_ad13 0 hf _ _ hw _ (lv_sub hl [1, 2, 4, 0] rfl)
    · replace hf := ifn hf hc
      refine lv_iconst (v := (-1)) C.1 C.2.1 dX7_putIn_10 (by decide) ?_
      exact fin_i C hw (Option.some.inj hf) (fun o => o.1) (fun o => (zO G ad o.2 ++ [])) rfl rfl dX7_putIn_11
set_option maxHeartbeats 4000000 in
set_option maxRecDepth 100000 in
theorem c_X7_takeOut (l : Launch) (G : GG) (ad : Nat → Nat) (sz : Nat) (z_ad : Pic) (x1 : Int32) (x2 : Int32) (out : Pic) (hf : f_X7_takeOut z_ad x1 x2 = some out) : Met l yX7_takeOut (.code yX7_takeOut cX7_takeOut 3 none :: BT) ({ frames := 0, cells := 0, slots := 0, locals := 0 }) (va_Pc [.ref (ad 199), .int x1, .int x2] (PreW G sz (zO G ad z_ad ++ []))) (Don G (va_A (zO G ad z_ad ++ []) sz) (zO G ad out ++ [])) 0 0 (va_A (zO G ad z_ad ++ []) sz) := by
  refine Met.into (by decide) (Nat.le_of_ble_eq_true rfl) ?_
  intro p e s m below meth c C hsz ls hl hw
  have hl : lv_has ls 3 [(0, .ref (ad 199)), (1, .int x1), (2, .int x2)] := hl
  clear hsz
  generalize va_A (zO G ad z_ad ++ []) sz = A at hw ⊢
  unfold f_X7_takeOut at hf
  refine r_iload0 C hl 1 rfl dX7_takeOut_0 ?_
  refine lv_if_lt (tgt := 30) C.1 C.2.1 dX7_takeOut_1 (by decide) (fun hc => ?_) (fun hc => ?_)
  · replace hf := ifp hf hc
    exact fin_v C hw (Option.some.inj hf) (fun o => (zO G ad o ++ [])) rfl dX7_takeOut_30
  · replace hf := ifn hf hc
    refine r_iload0 C hl 1 rfl dX7_takeOut_4 ?_
    refine lv_bipush (v := 24) C.1 C.2.1 dX7_takeOut_5 (by decide) ?_
    refine lv_icmp_ge (tgt := 30) C.1 C.2.1 dX7_takeOut_7 (by decide) (fun hc => ?_) (fun hc => ?_)
    · replace hf := ifp hf hc
      exact fin_v C hw (Option.some.inj hf) (fun o => (zO G ad o ++ [])) rfl dX7_takeOut_30
    · replace hf := ifn hf hc
      refine r_iload0 C hl 2 rfl dX7_takeOut_10 ?_
      refine lv_if_lt (tgt := 30) C.1 C.2.1 dX7_takeOut_11 (by decide) (fun hc => ?_) (fun hc => ?_)
      · replace hf := ifp hf hc
        exact fin_v C hw (Option.some.inj hf) (fun o => (zO G ad o ++ [])) rfl dX7_takeOut_30
      · replace hf := ifn hf hc
        refine r_iload0 C hl 2 rfl dX7_takeOut_14 ?_
        refine r_aload0 C hl 0 rfl dX7_takeOut_15 ?_
        refine r_get C hw _ (gx_h zO_o) 3 fl_X7_18 rfl dX7_takeOut_16 ?_
        refine r_iload0 C hl 1 rfl dX7_takeOut_19 ?_
        obtain ⟨v1_, e1, hf⟩ := bx hf
        refine r_iald C hw _ (gx_h zO_g3) e1 dX7_takeOut_20 ?_
        refine lv_icmp_ge (tgt := 30) C.1 C.2.1 dX7_takeOut_21 (by decide) (fun hc => ?_) (fun hc => ?_)
        · replace hf := ifp hf hc
          exact fin_v C hw (Option.some.inj hf) (fun o => (zO G ad o ++ [])) rfl dX7_takeOut_30
        · replace hf := ifn hf hc
          refine r_iload0 C hl 2 rfl dX7_takeOut_24 ?_
          refine lv_bipush (v := 16) C.1 C.2.1 dX7_takeOut_25 (by decide) ?_
          refine lv_icmp_lt (tgt := 31) C.1 C.2.1 dX7_takeOut_27 (by decide) (fun hc => ?_) (fun hc => ?_)
          · replace hf := ifp hf hc
            refine r_aload0 C hl 0 rfl dX7_takeOut_31 ?_
            refine r_get C hw _ (gx_h zO_o) 5 fl_X7_24 rfl dX7_takeOut_32 ?_
            refine r_iload0 C hl 1 rfl dX7_takeOut_35 ?_
            refine lv_bipush (v := 16) C.1 C.2.1 dX7_takeOut_36 (by decide) ?_
            refine lv_imul C.1 C.2.1 dX7_takeOut_38 ?_
            refine r_iload0 C hl 2 rfl dX7_takeOut_39 ?_
            refine lv_iadd C.1 C.2.1 dX7_takeOut_40 ?_
            refine lv_bipush (v := (-2)) C.1 C.2.1 dX7_takeOut_41 (by decide) ?_
            obtain ⟨z_ad2, e2, hf⟩ := bx hf
            refine r_iast C hw _ (gx_h zO_g5) e2 (zO G ad z_ad2 ++ []) (fun h => (sx_h zO_g5 (zO_s5 h))) dX7_takeOut_43 (fun H locs hw => ?_)
            refine r_aload0 C hl 0 rfl dX7_takeOut_44 ?_
            refine r_get C hw _ (gx_h zO_o) 4 fl_X7_21 rfl dX7_takeOut_45 ?_
            refine r_iload0 C hl 1 rfl dX7_takeOut_48 ?_
            refine lv_dup2_11 C.1 C.2.1 dX7_takeOut_49 rfl rfl ?_
            obtain ⟨v3_, e3, hf⟩ := bx hf
            refine r_iald C hw _ (gx_h zO_g4) e3 dX7_takeOut_50 ?_
            refine lv_iconst (v := 1) C.1 C.2.1 dX7_takeOut_51 (by decide) ?_
            refine lv_isub C.1 C.2.1 dX7_takeOut_52 ?_
            obtain ⟨z_ad4, e4, hf⟩ := bx hf
            refine r_iast C hw _ (gx_h zO_g4) e4 (zO G ad z_ad4 ++ []) (fun h => (sx_h zO_g4 (zO_s4 h))) dX7_takeOut_53 (fun H locs hw => ?_)
            refine r_aload0 C hl 0 rfl dX7_takeOut_54 ?_
            refine r_get C hw _ (gx_h zO_o) 4 fl_X7_21 rfl dX7_takeOut_55 ?_
            refine r_iload0 C hl 1 rfl dX7_takeOut_58 ?_
            obtain ⟨v5_, e5, hf⟩ := bx hf
            refine r_iald C hw _ (gx_h zO_g4) e5 dX7_takeOut_59 ?_
            refine lv_if_ne (tgt := 99) C.1 C.2.1 dX7_takeOut_60 (by decide) (fun hc => ?_) (fun hc => ?_)
            · replace hf := ifn hf hc
              exact fin_v C hw (Option.some.inj hf) (fun o => (zO G ad o ++ [])) rfl dX7_takeOut_99
            · replace hf := ifp hf hc
              refine r_aload0 C hl 0 rfl dX7_takeOut_63 ?_
              refine lv_dup C.1 C.2.1 dX7_takeOut_64 rfl ?_
              refine r_get C hw _ (gx_h zO_o) 0 fl_X7_27 rfl dX7_takeOut_65 ?_
              refine r_aload0 C hl 0 rfl dX7_takeOut_68 ?_
              refine r_get C hw _ (gx_h zO_o) 2 fl_X7_15 rfl dX7_takeOut_69 ?_
              refine r_iload0 C hl 1 rfl dX7_takeOut_72 ?_
              obtain ⟨v6_, e6, hf⟩ := bx hf
              refine r_iald C hw _ (gx_h zO_g2) e6 dX7_takeOut_73 ?_
              refine lv_isub C.1 C.2.1 dX7_takeOut_74 ?_
              obtain ⟨z_ad7, e7, hf⟩ := bx hf
              refine r_put C hw _ (gx_h zO_o) 0 fp_X7_27 rfl rfl (Nat.le_of_ble_eq_true rfl) (zO G ad z_ad7 ++ []) (sx_h zO_o (zO_p0 e7)) dX7_takeOut_75 (fun H locs hw => ?_)
              refine r_aload0 C hl 0 rfl dX7_takeOut_78 ?_
              refine r_get C hw _ (gx_h zO_o) 1 fl_X7_9 rfl dX7_takeOut_79 ?_
              refine r_iload0 C hl 1 rfl dX7_takeOut_82 ?_
              refine lv_iconst (v := 0) C.1 C.2.1 dX7_takeOut_83 (by decide) ?_
              obtain ⟨z_ad8, e8, hf⟩ := bx hf
              refine r_iast C hw _ (gx_h zO_g1) e8 (zO G ad z_ad8 ++ []) (fun h => (sx_h zO_g1 (zO_s1 h))) dX7_takeOut_84 (fun H locs hw => ?_)
              refine r_aload0 C hl 0 rfl dX7_takeOut_85 ?_
              refine r_get C hw _ (gx_h zO_o) 2 fl_X7_15 rfl dX7_takeOut_86 ?_
              refine r_iload0 C hl 1 rfl dX7_takeOut_89 ?_
              refine lv_iconst (v := 0) C.1 C.2.1 dX7_takeOut_90 (by decide) ?_
              obtain ⟨z_ad9, e9, hf⟩ := bx hf
              refine r_iast C hw _ (gx_h zO_g2) e9 (zO G ad z_ad9 ++ []) (fun h => (sx_h zO_g2 (zO_s2 h))) dX7_takeOut_91 (fun H locs hw => ?_)
              refine r_aload0 C hl 0 rfl dX7_takeOut_92 ?_
              refine r_get C hw _ (gx_h zO_o) 3 fl_X7_18 rfl dX7_takeOut_93 ?_
              refine r_iload0 C hl 1 rfl dX7_takeOut_96 ?_
              refine lv_iconst (v := 0) C.1 C.2.1 dX7_takeOut_97 (by decide) ?_
              obtain ⟨z_ad10, e10, hf⟩ := bx hf
              refine r_iast C hw _ (gx_h zO_g3) e10 (zO G ad z_ad10 ++ []) (fun h => (sx_h zO_g3 (zO_s3 h))) dX7_takeOut_98 (fun H locs hw => ?_)
              exact fin_v C hw (Option.some.inj hf) (fun o => (zO G ad o ++ [])) rfl dX7_takeOut_99
          · replace hf := ifn hf hc
            exact fin_v C hw (Option.some.inj hf) (fun o => (zO G ad o ++ [])) rfl dX7_takeOut_30
set_option maxHeartbeats 4000000 in
set_option maxRecDepth 100000 in
theorem c_X7_hasRoom (l : Launch) (G : GG) (ad : Nat → Nat) (sz : Nat) (z_ad : Pic) (x1 : Int32) (x2 : Int32) (out : Int32) (hf : f_X7_hasRoom z_ad x1 x2 = some out) : Met l yX7_hasRoom (.code yX7_hasRoom cX7_hasRoom 3 (some .boolean) :: BT) ({ frames := 0, cells := 0, slots := 0, locals := 0 }) (va_Pc [.ref (ad 199), .int x1, .int x2] (PreW G sz (zO G ad z_ad ++ []))) (Ans G out (va_A (zO G ad z_ad ++ []) sz) (zO G ad z_ad ++ [])) 0 0 (va_A (zO G ad z_ad ++ []) sz) := by
  refine Met.into (by decide) (Nat.le_of_ble_eq_true rfl) ?_
  intro p e s m below meth c C hsz ls hl hw
  have hl : lv_has ls 3 [(0, .ref (ad 199)), (1, .int x1), (2, .int x2)] := hl
  clear hsz
  generalize va_A (zO G ad z_ad ++ []) sz = A at hw ⊢
  unfold f_X7_hasRoom at hf
  refine r_aload0 C hl 0 rfl dX7_hasRoom_0 ?_
  refine r_get C hw _ (gx_h zO_o) 1 fl_X7_9 rfl dX7_hasRoom_1 ?_
  refine r_iload0 C hl 1 rfl dX7_hasRoom_4 ?_
  obtain ⟨v1_, e1, hf⟩ := bx hf
  refine r_iald C hw _ (gx_h zO_g1) e1 dX7_hasRoom_5 ?_
  refine r_iload0 C hl 2 rfl dX7_hasRoom_6 ?_
  refine lv_icmp_ne (tgt := 29) C.1 C.2.1 dX7_hasRoom_7 (by decide) (fun hc => ?_) (fun hc => ?_)
  · replace hf := ifn hf hc
    refine lv_iconst (v := 0) C.1 C.2.1 dX7_hasRoom_29 (by decide) ?_
    exact fin_z C hw (by decide) (Option.some.inj hf) (fun o => o) (fun o => (zO G ad z_ad ++ [])) rfl rfl dX7_hasRoom_30
  · replace hf := ifp hf hc
    refine r_aload0 C hl 0 rfl dX7_hasRoom_10 ?_
    refine r_get C hw _ (gx_h zO_o) 4 fl_X7_21 rfl dX7_hasRoom_11 ?_
    refine r_iload0 C hl 1 rfl dX7_hasRoom_14 ?_
    obtain ⟨v2_, e2, hf⟩ := bx hf
    refine r_iald C hw _ (gx_h zO_g4) e2 dX7_hasRoom_15 ?_
    refine r_aload0 C hl 0 rfl dX7_hasRoom_16 ?_
    refine r_get C hw _ (gx_h zO_o) 3 fl_X7_18 rfl dX7_hasRoom_17 ?_
    refine r_iload0 C hl 1 rfl dX7_hasRoom_20 ?_
    obtain ⟨v3_, e3, hf⟩ := bx hf
    refine r_iald C hw _ (gx_h zO_g3) e3 dX7_hasRoom_21 ?_
    refine lv_icmp_ge (tgt := 29) C.1 C.2.1 dX7_hasRoom_22 (by decide) (fun hc => ?_) (fun hc => ?_)
    · replace hf := ifp hf hc
      refine lv_iconst (v := 0) C.1 C.2.1 dX7_hasRoom_29 (by decide) ?_
      exact fin_z C hw (by decide) (Option.some.inj hf) (fun o => o) (fun o => (zO G ad z_ad ++ [])) rfl rfl dX7_hasRoom_30
    · replace hf := ifn hf hc
      refine lv_iconst (v := 1) C.1 C.2.1 dX7_hasRoom_25 (by decide) ?_
      refine lv_goto (tgt := 30) C.1 C.2.1 dX7_hasRoom_26 (by decide) ?_
      exact fin_z C hw (by decide) (Option.some.inj hf) (fun o => o) (fun o => (zO G ad z_ad ++ [])) rfl rfl dX7_hasRoom_30
set_option maxHeartbeats 4000000 in
set_option maxRecDepth 100000 in
theorem c_X7_fullest (l : Launch) (G : GG) (ad : Nat → Nat) (sz : Nat) (z_ad : Pic) (x1 : Int32) (x2 : Int32) (out : Int32) (hf : f_X7_fullest z_ad x1 x2 = some out) : Met l yX7_fullest (.code yX7_fullest cX7_fullest 5 (some .int) :: BT) ({ frames := 1, cells := 0, slots := 0, locals := 22 }) (va_Pc [.ref (ad 199), .int x1, .int x2] (PreW G sz (zO G ad z_ad ++ []))) (Ans G out (va_A (zO G ad z_ad ++ []) sz) (zO G ad z_ad ++ [])) 0 0 (va_A (zO G ad z_ad ++ []) sz) := by
  refine Met.into (by decide) (Nat.le_of_ble_eq_true rfl) ?_
  intro p e s m below meth c C hsz ls hl hw
  have hl : lv_has ls 5 [(0, .ref (ad 199)), (1, .int x1), (2, .int x2)] := hl
  clear hsz
  generalize va_A (zO G ad z_ad ++ []) sz = A at hw ⊢
  have hB_5 : ∀ (k5 : Int32 → Int32 → Option (Int32)) (hk5 : ∀ (v3 : Int32) (v4 : Int32), k5 v3 v4 = some out → ∀ (H : Heap) (locs : List Loc), Wd G A s H locs (zO G ad z_ad ++ []) → ∀ ls : Array Slot, lv_has ls 5 [(0, .ref (ad 199)), (1, .int x1), (2, .int x2), (3, .int v3), (4, .int v4)] → W p l e ({ frames := 1, cells := 0, slots := 0, locals := 22 }) s m [.ref (ad 199), .int x1, .int x2].toArray below meth c H locs 0 0 (MQ below (Ans G out A (zO G ad z_ad ++ [])) [.ref (ad 199), .int x1, .int x2].toArray s 0 0 A) (F0 m 5 ls [])), ∀ (v3 : Int32) (v4 : Int32), b_X7_fullest_5 z_ad x1 x2 k5 v3 v4 = some out → ∀ (H : Heap) (locs : List Loc), Wd G A s H locs (zO G ad z_ad ++ []) → ∀ ls : Array Slot, lv_has ls 5 [(0, .ref (ad 199)), (1, .int x1), (2, .int x2), (3, .int v3), (4, .int v4)] → W p l e ({ frames := 1, cells := 0, slots := 0, locals := 22 }) s m [.ref (ad 199), .int x1, .int x2].toArray below meth c H locs 0 0 (MQ below (Ans G out A (zO G ad z_ad ++ [])) [.ref (ad 199), .int x1, .int x2].toArray s 0 0 A) (F0 m 5 ls []) := by
    intro k5 hk5 v3 v4 hf H locs hw ls hl
    unfold b_X7_fullest_5 at hf
    refine r_iload C hl 4 rfl dX7_fullest_5 ?_
    refine lv_bipush (v := 24) C.1 C.2.1 dX7_fullest_7 (by decide) ?_
    refine lv_icmp_ge (tgt := 57) C.1 C.2.1 dX7_fullest_9 (by decide) (fun hc => ?_) (fun hc => ?_)
    · replace hf := ifp hf hc
      refine r_iload0 C hl 3 rfl dX7_fullest_57 ?_
      exact fin_i C hw (Option.some.inj hf) (fun o => o) (fun o => (zO G ad z_ad ++ [])) rfl rfl dX7_fullest_58
    · replace hf := ifn hf hc
      refine r_iload C hl 4 rfl dX7_fullest_12 ?_
      refine r_iload0 C hl 2 rfl dX7_fullest_14 ?_
      refine lv_icmp_eq (tgt := 51) C.1 C.2.1 dX7_fullest_15 (by decide) (fun hc => ?_) (fun hc => ?_)
      · replace hf := ifp hf hc
        refine r_iinc C hl 4 (v4 + 1) [(4, .int (v4 + 1)), (0, .ref (ad 199)), (1, .int x1), (2, .int x2), (3, .int v3)] rfl (iinc_e (by decide)) (by decide) rfl dX7_fullest_51 (fun ls hl => ?_)
        refine lv_goto (tgt := 5) C.1 C.2.1 dX7_fullest_54 (by decide) ?_
        exact hk5 v3 (v4 + 1) hf _ _ hw _ (lv_sub hl [1, 2, 3, 4, 0] rfl)
      · replace hf := ifn hf hc
        refine r_aload0 C hl 0 rfl dX7_fullest_18 ?_
        refine r_iload C hl 4 rfl dX7_fullest_19 ?_
        refine r_iload0 C hl 1 rfl dX7_fullest_21 ?_
        obtain ⟨u1, e1, hf⟩ := bx hf
        refine r_callVi (ws' := (zO G ad z_ad ++ [])) (As := [.int v4, .int x1]) (rest := []) C hw hl.1 kX7_hasRoom ml_X7_43 (c_X7_hasRoom l G ad _ z_ad v4 x1 u1 e1) (CutX.take zO_f CutX.none) _ (gx_h zO_o) rfl ⟨rfl, rfl⟩ ⟨Nat.le_of_ble_eq_true rfl, Nat.le_of_ble_eq_true rfl⟩ rfl ⟨Nat.zero_le _, Nat.zero_le _⟩ rfl (Nat.le_of_ble_eq_true rfl) dX7_fullest_22 (fun H locs hw => ?_)
        refine lv_if_eq (tgt := 51) C.1 C.2.1 dX7_fullest_25 (by decide) (fun hc => ?_) (fun hc => ?_)
        · replace hf := ifp hf hc
          refine r_iinc C hl 4 (v4 + 1) [(4, .int (v4 + 1)), (0, .ref (ad 199)), (1, .int x1), (2, .int x2), (3, .int v3)] rfl (iinc_e (by decide)) (by decide) rfl dX7_fullest_51 (fun ls hl => ?_)
          refine lv_goto (tgt := 5) C.1 C.2.1 dX7_fullest_54 (by decide) ?_
          exact hk5 v3 (v4 + 1) hf _ _ hw _ (lv_sub hl [1, 2, 3, 4, 0] rfl)
        · replace hf := ifn hf hc
          refine r_iload0 C hl 3 rfl dX7_fullest_28 ?_
          refine lv_if_lt (tgt := 48) C.1 C.2.1 dX7_fullest_29 (by decide) (fun hc => ?_) (fun hc => ?_)
          · replace hf := ifp hf hc
            refine r_iload C hl 4 rfl dX7_fullest_48 ?_
            refine r_istore0 C hl [(3, .int v4), (0, .ref (ad 199)), (1, .int x1), (2, .int x2), (4, .int v4)] (by decide) rfl dX7_fullest_50 (fun ls hl => ?_)
            refine r_iinc C hl 4 (v4 + 1) [(4, .int (v4 + 1)), (3, .int v4), (0, .ref (ad 199)), (1, .int x1), (2, .int x2)] rfl (iinc_e (by decide)) (by decide) rfl dX7_fullest_51 (fun ls hl => ?_)
            refine lv_goto (tgt := 5) C.1 C.2.1 dX7_fullest_54 (by decide) ?_
            exact hk5 v4 (v4 + 1) hf _ _ hw _ (lv_sub hl [2, 3, 4, 1, 0] rfl)
          · replace hf := ifn hf hc
            refine r_aload0 C hl 0 rfl dX7_fullest_32 ?_
            refine r_get C hw _ (gx_h zO_o) 4 fl_X7_21 rfl dX7_fullest_33 ?_
            refine r_iload C hl 4 rfl dX7_fullest_36 ?_
            obtain ⟨v2_, e2, hf⟩ := bx hf
            refine r_iald C hw _ (gx_h zO_g4) e2 dX7_fullest_38 ?_
            refine r_aload0 C hl 0 rfl dX7_fullest_39 ?_
            refine r_get C hw _ (gx_h zO_o) 4 fl_X7_21 rfl dX7_fullest_40 ?_
            refine r_iload0 C hl 3 rfl dX7_fullest_43 ?_
            obtain ⟨v3_, e3, hf⟩ := bx hf
            refine r_iald C hw _ (gx_h zO_g4) e3 dX7_fullest_44 ?_
            refine lv_icmp_le (tgt := 51) C.1 C.2.1 dX7_fullest_45 (by decide) (fun hc => ?_) (fun hc => ?_)
            · replace hf := ifp hf hc
              refine r_iinc C hl 4 (v4 + 1) [(4, .int (v4 + 1)), (0, .ref (ad 199)), (1, .int x1), (2, .int x2), (3, .int v3)] rfl (iinc_e (by decide)) (by decide) rfl dX7_fullest_51 (fun ls hl => ?_)
              refine lv_goto (tgt := 5) C.1 C.2.1 dX7_fullest_54 (by decide) ?_
              exact hk5 v3 (v4 + 1) hf _ _ hw _ (lv_sub hl [1, 2, 3, 4, 0] rfl)
            · replace hf := ifn hf hc
              refine r_iload C hl 4 rfl dX7_fullest_48 ?_
              refine r_istore0 C hl [(3, .int v4), (0, .ref (ad 199)), (1, .int x1), (2, .int x2), (4, .int v4)] (by decide) rfl dX7_fullest_50 (fun ls hl => ?_)
              refine r_iinc C hl 4 (v4 + 1) [(4, .int (v4 + 1)), (3, .int v4), (0, .ref (ad 199)), (1, .int x1), (2, .int x2)] rfl (iinc_e (by decide)) (by decide) rfl dX7_fullest_51 (fun ls hl => ?_)
              refine lv_goto (tgt := 5) C.1 C.2.1 dX7_fullest_54 (by decide) ?_
              exact hk5 v4 (v4 + 1) hf _ _ hw _ (lv_sub hl [2, 3, 4, 1, 0] rfl)
  have hL_5 : ∀ n : Nat, ∀ (v3 : Int32) (v4 : Int32), L_X7_fullest_5 z_ad x1 x2  n v3 v4 = some out → ∀ (H : Heap) (locs : List Loc), Wd G A s H locs (zO G ad z_ad ++ []) → ∀ ls : Array Slot, lv_has ls 5 [(0, .ref (ad 199)), (1, .int x1), (2, .int x2), (3, .int v3), (4, .int v4)] → W p l e ({ frames := 1, cells := 0, slots := 0, locals := 22 }) s m [.ref (ad 199), .int x1, .int x2].toArray below meth c H locs 0 0 (MQ below (Ans G out A (zO G ad z_ad ++ [])) [.ref (ad 199), .int x1, .int x2].toArray s 0 0 A) (F0 m 5 ls []) := by
    intro  n
    induction n with
    | zero => intro v3 v4 hf; cases hf
    | succ n ih => exact hB_5 _ ih
  unfold f_X7_fullest at hf
  refine lv_iconst (v := (-1)) C.1 C.2.1 dX7_fullest_0 (by decide) ?_
  refine r_istore0 C hl [(3, .int (-1)), (0, .ref (ad 199)), (1, .int x1), (2, .int x2)] (by decide) rfl dX7_fullest_1 (fun ls hl => ?_)
  refine lv_iconst (v := 0) C.1 C.2.1 dX7_fullest_2 (by decide) ?_
  refine r_istore C hl [(4, .int 0), (3, .int (-1)), (0, .ref (ad 199)), (1, .int x1), (2, .int x2)] (by decide) rfl dX7_fullest_3 (fun ls hl => ?_)
  exact hL_5  FU (-1) 0 hf _ _ hw _ (lv_sub hl [2, 3, 4, 1, 0] rfl)
