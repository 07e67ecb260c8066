set_option maxHeartbeats 4000000 in
set_option maxRecDepth 100000 in
theorem c_X3_begin (l : Launch) (G : GG) (ad : Nat → Nat) (sz : Nat) (p_ad : Pic) (z_ad : Pic) (x1 : Int32) (x2 : Int32) (x3 : Int32) (out : Pic × Pic) (hf : f_X3_begin p_ad z_ad x1 x2 x3 = some out) : Met l yX3_begin (.code yX3_begin cX3_begin 4 none :: BT) ({ frames := 2, cells := 0, slots := 0, locals := 43 }) (va_Pc [.ref (ad 99), .int x1, .int x2, .int x3] (PreW G sz (pO G ad p_ad ++ (zO G ad z_ad ++ [])))) (Don G (va_A (pO G ad p_ad ++ (zO G ad z_ad ++ [])) sz) (pO G ad out.1 ++ (zO G ad out.2 ++ []))) 0 0 (va_A (pO G ad p_ad ++ (zO G ad z_ad ++ [])) sz) := by
  refine Met.into (by decide) (Nat.le_of_ble_eq_true rfl) ?_
  intro p e s m below meth c C hsz ls hl hw
  have hl : lv_has ls 4 [(0, .ref (ad 99)), (1, .int x1), (2, .int x2), (3, .int x3)] := hl
  clear hsz
  generalize va_A (pO G ad p_ad ++ (zO G ad z_ad ++ [])) sz = A at hw ⊢
  unfold f_X3_begin at hf
  refine r_aload0 C hl 0 rfl dX3_begin_0 ?_
  refine r_iload0 C hl 1 rfl dX3_begin_1 ?_
  obtain ⟨p_ad1, e1, hf⟩ := bx hf
  refine r_put C hw _ (gx_h pO_o) 0 fp_X3_9 rfl rfl (Nat.le_of_ble_eq_true rfl) (pO G ad p_ad1 ++ (zO G ad z_ad ++ [])) (sx_h pO_o (pO_p0 e1)) dX3_begin_2 (fun H locs hw => ?_)
  refine r_aload0 C hl 0 rfl dX3_begin_5 ?_
  refine r_iload0 C hl 2 rfl dX3_begin_6 ?_
  obtain ⟨p_ad2, e2, hf⟩ := bx hf
  refine r_put C hw _ (gx_h pO_o) 1 fp_X3_15 rfl rfl (Nat.le_of_ble_eq_true rfl) (pO G ad p_ad2 ++ (zO G ad z_ad ++ [])) (sx_h pO_o (pO_p1 e2)) dX3_begin_7 (fun H locs hw => ?_)
  refine r_aload0 C hl 0 rfl dX3_begin_10 ?_
  refine r_iload0 C hl 3 rfl dX3_begin_11 ?_
  obtain ⟨p_ad3, e3, hf⟩ := bx hf
  refine r_put C hw _ (gx_h pO_o) 2 fp_X3_18 rfl rfl (Nat.le_of_ble_eq_true rfl) (pO G ad p_ad3 ++ (zO G ad z_ad ++ [])) (sx_h pO_o (pO_p2 e3)) dX3_begin_12 (fun H locs hw => ?_)
  refine r_aload0 C hl 0 rfl dX3_begin_15 ?_
  refine r_get C hw _ (gx_h pO_o) 3 fl_X3_24 rfl dX3_begin_16 ?_
  obtain ⟨u4, e4, hf⟩ := bx hf
  refine r_callVv (ws' := (pO G ad p_ad3 ++ (zO G ad u4 ++ []))) (As := []) (rest := []) C hw hl.1 kX7_clear ml_X3_56 (c_X7_clear l G ad _ z_ad u4 e4) (CutX.skip (CutX.take zO_f CutX.none)) _ (gx_t (gx_h zO_o)) rfl ⟨rfl, rfl⟩ ⟨Nat.le_of_ble_eq_true rfl, Nat.le_of_ble_eq_true rfl⟩ rfl ⟨Nat.zero_le _, Nat.zero_le _⟩ rfl (Nat.le_of_ble_eq_true rfl) dX3_begin_19 (fun H locs hw => ?_)
  refine r_aload0 C hl 0 rfl dX3_begin_22 ?_
  refine r_get C hw _ (gx_h pO_o) 4 fl_X3_28 rfl dX3_begin_23 ?_
  refine lv_iconst (v := 0) C.1 C.2.1 dX3_begin_26 (by decide) ?_
  obtain ⟨p_ad5, e5, hf⟩ := bx hf
  refine r_fill C hw hl.1 ml_X3_59 _ (gx_h pO_g4) (by decide) (pO G ad p_ad5 ++ (zO G ad u4 ++ [])) (sx_h pO_g4 (pO_s4 (Option.some.inj e5).symm)) (Nat.le_of_ble_eq_true rfl) (Nat.le_of_ble_eq_true rfl) ⟨Nat.zero_le _, Nat.zero_le _⟩ (Nat.le_of_ble_eq_true rfl) dX3_begin_27 (fun H locs hw => ?_)
  refine r_aload0 C hl 0 rfl dX3_begin_30 ?_
  refine r_get C hw _ (gx_h pO_o) 8 fl_X3_41 rfl dX3_begin_31 ?_
  refine lv_iconst (v := 0) C.1 C.2.1 dX3_begin_34 (by decide) ?_
  obtain ⟨p_ad6, e6, hf⟩ := bx hf
  refine r_fill C hw hl.1 ml_X3_59 _ (gx_h pO_g8) (by decide) (pO G ad p_ad6 ++ (zO G ad u4 ++ [])) (sx_h pO_g8 (pO_s8 (Option.some.inj e6).symm)) (Nat.le_of_ble_eq_true rfl) (Nat.le_of_ble_eq_true rfl) ⟨Nat.zero_le _, Nat.zero_le _⟩ (Nat.le_of_ble_eq_true rfl) dX3_begin_35 (fun H locs hw => ?_)
  refine r_aload0 C hl 0 rfl dX3_begin_38 ?_
  refine lv_iconst (v := 0) C.1 C.2.1 dX3_begin_39 (by decide) ?_
  obtain ⟨p_ad7, e7, hf⟩ := bx hf
  refine r_put C hw _ (gx_h pO_o) 11 fp_X3_65 rfl rfl (Nat.le_of_ble_eq_true rfl) (pO G ad p_ad7 ++ (zO G ad u4 ++ [])) (sx_h pO_o (pO_p11 e7)) dX3_begin_40 (fun H locs hw => ?_)
  refine r_aload0 C hl 0 rfl dX3_begin_43 ?_
  refine r_get C hw _ (gx_h pO_o) 12 fl_X3_50 rfl dX3_begin_44 ?_
  refine lv_iconst (v := 0) C.1 C.2.1 dX3_begin_47 (by decide) ?_
  obtain ⟨p_ad8, e8, hf⟩ := bx hf
  refine r_fill C hw hl.1 ml_X3_59 _ (gx_h pO_g12) (by decide) (pO G ad p_ad8 ++ (zO G ad u4 ++ [])) (sx_h pO_g12 (pO_s12 (Option.some.inj e8).symm)) (Nat.le_of_ble_eq_true rfl) (Nat.le_of_ble_eq_true rfl) ⟨Nat.zero_le _, Nat.zero_le _⟩ (Nat.le_of_ble_eq_true rfl) dX3_begin_48 (fun H locs hw => ?_)
  refine r_aload0 C hl 0 rfl dX3_begin_51 ?_
  refine lv_iconst (v := 0) C.1 C.2.1 dX3_begin_52 (by decide) ?_
  obtain ⟨p_ad9, e9, hf⟩ := bx hf
  refine r_put C hw _ (gx_h pO_o) 14 fp_X3_68 rfl rfl (Nat.le_of_ble_eq_true rfl) (pO G ad p_ad9 ++ (zO G ad u4 ++ [])) (sx_h pO_o (pO_p14 e9)) dX3_begin_53 (fun H locs hw => ?_)
  exact fin_v C hw (Option.some.inj hf) (fun o => (pO G ad o.1 ++ (zO G ad o.2 ++ []))) rfl dX3_begin_56
set_option maxHeartbeats 4000000 in
set_option maxRecDepth 100000 in
theorem c_X3_copyFrom (l : Launch) (G : GG) (ad : Nat → Nat) (aa : Nat → Nat) (sz : Nat) (p_aa : Pic) (p_ad : Pic) (z_aa : Pic) (z_ad : Pic)  (out : Pic × Pic) (hf : f_X3_copyFrom p_aa p_ad z_aa z_ad = some out) : Met l yX3_copyFrom (.code yX3_copyFrom cX3_copyFrom 2 none :: BT) ({ frames := 2, cells := 0, slots := 0, locals := 47 }) (va_Pc [.ref (ad 99), .ref (aa 99)] (PreW G sz (pO G aa p_aa ++ (pO G ad p_ad ++ (zO G aa z_aa ++ (zO G ad z_ad ++ [])))))) (Don G (va_A (pO G aa p_aa ++ (pO G ad p_ad ++ (zO G aa z_aa ++ (zO G ad z_ad ++ [])))) sz) (pO G aa p_aa ++ (pO G ad out.1 ++ (zO G aa z_aa ++ (zO G ad out.2 ++ []))))) 0 0 (va_A (pO G aa p_aa ++ (pO G ad p_ad ++ (zO G aa z_aa ++ (zO G ad z_ad ++ [])))) sz) := by
  refine Met.into (by decide) (Nat.le_of_ble_eq_true rfl) ?_
  intro p e s m below meth c C hsz ls hl hw
  have hl : lv_has ls 2 [(0, .ref (ad 99)), (1, .ref (aa 99))] := hl
  clear hsz
  generalize va_A (pO G aa p_aa ++ (pO G ad p_ad ++ (zO G aa z_aa ++ (zO G ad z_ad ++ [])))) sz = A at hw ⊢
  unfold f_X3_copyFrom at hf
  refine r_aload0 C hl 0 rfl dX3_copyFrom_0 ?_
  refine r_aload0 C hl 1 rfl dX3_copyFrom_1 ?_
  refine r_get C hw _ (gx_h pO_o) 0 fl_X3_9 rfl dX3_copyFrom_2 ?_
  obtain ⟨p_ad1, e1, hf⟩ := bx hf
  refine r_put C hw _ (gx_t (gx_h pO_o)) 0 fp_X3_9 rfl rfl (Nat.le_of_ble_eq_true rfl) (pO G aa p_aa ++ (pO G ad p_ad1 ++ (zO G aa z_aa ++ (zO G ad z_ad ++ [])))) (sx_t (sx_h pO_o (pO_p0 e1))) dX3_copyFrom_5 (fun H locs hw => ?_)
  refine r_aload0 C hl 0 rfl dX3_copyFrom_8 ?_
  refine r_aload0 C hl 1 rfl dX3_copyFrom_9 ?_
  refine r_get C hw _ (gx_h pO_o) 1 fl_X3_15 rfl dX3_copyFrom_10 ?_
  obtain ⟨p_ad2, e2, hf⟩ := bx hf
  refine r_put C hw _ (gx_t (gx_h pO_o)) 1 fp_X3_15 rfl rfl (Nat.le_of_ble_eq_true rfl) (pO G aa p_aa ++ (pO G ad p_ad2 ++ (zO G aa z_aa ++ (zO G ad z_ad ++ [])))) (sx_t (sx_h pO_o (pO_p1 e2))) dX3_copyFrom_13 (fun H locs hw => ?_)
  refine r_aload0 C hl 0 rfl dX3_copyFrom_16 ?_
  refine r_aload0 C hl 1 rfl dX3_copyFrom_17 ?_
  refine r_get C hw _ (gx_h pO_o) 2 fl_X3_18 rfl dX3_copyFrom_18 ?_
  obtain ⟨p_ad3, e3, hf⟩ := bx hf
  refine r_put C hw _ (gx_t (gx_h pO_o)) 2 fp_X3_18 rfl rfl (Nat.le_of_ble_eq_true rfl) (pO G aa p_aa ++ (pO G ad p_ad3 ++ (zO G aa z_aa ++ (zO G ad z_ad ++ [])))) (sx_t (sx_h pO_o (pO_p2 e3))) dX3_copyFrom_21 (fun H locs hw => ?_)
  refine r_aload0 C hl 0 rfl dX3_copyFrom_24 ?_
  refine r_get C hw _ (gx_t (gx_h pO_o)) 3 fl_X3_24 rfl dX3_copyFrom_25 ?_
  refine r_aload0 C hl 1 rfl dX3_copyFrom_28 ?_
  refine r_get C hw _ (gx_h pO_o) 3 fl_X3_24 rfl dX3_copyFrom_29 ?_
  obtain ⟨u4, e4, hf⟩ := bx hf
  refine r_callVv (ws' := (pO G aa p_aa ++ (pO G ad p_ad3 ++ (zO G aa z_aa ++ (zO G ad u4 ++ []))))) (As := [.ref (aa 199)]) (rest := []) C hw hl.1 kX7_copyFrom ml_X3_71 (c_X7_copyFrom l G ad aa _ z_aa z_ad u4 e4) (CutX.skip (CutX.skip (CutX.take zO_f (CutX.take zO_f CutX.none)))) _ (gx_t (gx_t (gx_t (gx_h zO_o)))) rfl ⟨rfl, rfl⟩ ⟨Nat.le_of_ble_eq_true rfl, Nat.le_of_ble_eq_true rfl⟩ rfl ⟨Nat.zero_le _, Nat.zero_le _⟩ rfl (Nat.le_of_ble_eq_true rfl) dX3_copyFrom_32 (fun H locs hw => ?_)
  refine r_aload0 C hl 1 rfl dX3_copyFrom_35 ?_
  refine r_get C hw _ (gx_h pO_o) 4 fl_X3_28 rfl dX3_copyFrom_36 ?_
  refine lv_iconst (v := 0) C.1 C.2.1 dX3_copyFrom_39 (by decide) ?_
  refine r_aload0 C hl 0 rfl dX3_copyFrom_40 ?_
  refine r_get C hw _ (gx_t (gx_h pO_o)) 4 fl_X3_28 rfl dX3_copyFrom_41 ?_
  refine lv_iconst (v := 0) C.1 C.2.1 dX3_copyFrom_44 (by decide) ?_
  refine lv_bipush (v := 30) C.1 C.2.1 dX3_copyFrom_45 (by decide) ?_
  obtain ⟨p_ad5, e5, hf⟩ := bx hf
  refine r_copy C hw hl.1 acl_X3_75 _ _ (gx_h pO_g4) (gx_t (gx_h pO_g4)) e5 (pO G aa p_aa ++ (pO G ad p_ad5 ++ (zO G aa z_aa ++ (zO G ad u4 ++ [])))) (fun h => (sx_t (sx_h pO_g4 (pO_s4 h)))) (Nat.le_of_ble_eq_true rfl) (Nat.le_of_ble_eq_true rfl) dX3_copyFrom_47 (fun H locs hw => ?_)
  refine r_aload0 C hl 1 rfl dX3_copyFrom_50 ?_
  refine r_get C hw _ (gx_h pO_o) 5 fl_X3_32 rfl dX3_copyFrom_51 ?_
  refine lv_iconst (v := 0) C.1 C.2.1 dX3_copyFrom_54 (by decide) ?_
  refine r_aload0 C hl 0 rfl dX3_copyFrom_55 ?_
  refine r_get C hw _ (gx_t (gx_h pO_o)) 5 fl_X3_32 rfl dX3_copyFrom_56 ?_
  refine lv_iconst (v := 0) C.1 C.2.1 dX3_copyFrom_59 (by decide) ?_
  refine lv_bipush (v := 30) C.1 C.2.1 dX3_copyFrom_60 (by decide) ?_
  obtain ⟨p_ad6, e6, hf⟩ := bx hf
  refine r_copy C hw hl.1 acl_X3_75 _ _ (gx_h pO_g5) (gx_t (gx_h pO_g5)) e6 (pO G aa p_aa ++ (pO G ad p_ad6 ++ (zO G aa z_aa ++ (zO G ad u4 ++ [])))) (fun h => (sx_t (sx_h pO_g5 (pO_s5 h)))) (Nat.le_of_ble_eq_true rfl) (Nat.le_of_ble_eq_true rfl) dX3_copyFrom_62 (fun H locs hw => ?_)
  refine r_aload0 C hl 1 rfl dX3_copyFrom_65 ?_
  refine r_get C hw _ (gx_h pO_o) 6 fl_X3_35 rfl dX3_copyFrom_66 ?_
  refine lv_iconst (v := 0) C.1 C.2.1 dX3_copyFrom_69 (by decide) ?_
  refine r_aload0 C hl 0 rfl dX3_copyFrom_70 ?_
  refine r_get C hw _ (gx_t (gx_h pO_o)) 6 fl_X3_35 rfl dX3_copyFrom_71 ?_
  refine lv_iconst (v := 0) C.1 C.2.1 dX3_copyFrom_74 (by decide) ?_
  refine lv_bipush (v := 30) C.1 C.2.1 dX3_copyFrom_75 (by decide) ?_
  obtain ⟨p_ad7, e7, hf⟩ := bx hf
  refine r_copy C hw hl.1 acl_X3_75 _ _ (gx_h pO_g6) (gx_t (gx_h pO_g6)) e7 (pO G aa p_aa ++ (pO G ad p_ad7 ++ (zO G aa z_aa ++ (zO G ad u4 ++ [])))) (fun h => (sx_t (sx_h pO_g6 (pO_s6 h)))) (Nat.le_of_ble_eq_true rfl) (Nat.le_of_ble_eq_true rfl) dX3_copyFrom_77 (fun H locs hw => ?_)
  refine r_aload0 C hl 1 rfl dX3_copyFrom_80 ?_
  refine r_get C hw _ (gx_h pO_o) 7 fl_X3_38 rfl dX3_copyFrom_81 ?_
  refine lv_iconst (v := 0) C.1 C.2.1 dX3_copyFrom_84 (by decide) ?_
  refine r_aload0 C hl 0 rfl dX3_copyFrom_85 ?_
  refine r_get C hw _ (gx_t (gx_h pO_o)) 7 fl_X3_38 rfl dX3_copyFrom_86 ?_
  refine lv_iconst (v := 0) C.1 C.2.1 dX3_copyFrom_89 (by decide) ?_
  refine lv_bipush (v := 30) C.1 C.2.1 dX3_copyFrom_90 (by decide) ?_
  obtain ⟨p_ad8, e8, hf⟩ := bx hf
  refine r_copy C hw hl.1 acl_X3_75 _ _ (gx_h pO_g7) (gx_t (gx_h pO_g7)) e8 (pO G aa p_aa ++ (pO G ad p_ad8 ++ (zO G aa z_aa ++ (zO G ad u4 ++ [])))) (fun h => (sx_t (sx_h pO_g7 (pO_s7 h)))) (Nat.le_of_ble_eq_true rfl) (Nat.le_of_ble_eq_true rfl) dX3_copyFrom_92 (fun H locs hw => ?_)
  refine r_aload0 C hl 1 rfl dX3_copyFrom_95 ?_
  refine r_get C hw _ (gx_h pO_o) 8 fl_X3_41 rfl dX3_copyFrom_96 ?_
  refine lv_iconst (v := 0) C.1 C.2.1 dX3_copyFrom_99 (by decide) ?_
  refine r_aload0 C hl 0 rfl dX3_copyFrom_100 ?_
  refine r_get C hw _ (gx_t (gx_h pO_o)) 8 fl_X3_41 rfl dX3_copyFrom_101 ?_
  refine lv_iconst (v := 0) C.1 C.2.1 dX3_copyFrom_104 (by decide) ?_
  refine lv_bipush (v := 30) C.1 C.2.1 dX3_copyFrom_105 (by decide) ?_
  obtain ⟨p_ad9, e9, hf⟩ := bx hf
  refine r_copy C hw hl.1 acl_X3_75 _ _ (gx_h pO_g8) (gx_t (gx_h pO_g8)) e9 (pO G aa p_aa ++ (pO G ad p_ad9 ++ (zO G aa z_aa ++ (zO G ad u4 ++ [])))) (fun h => (sx_t (sx_h pO_g8 (pO_s8 h)))) (Nat.le_of_ble_eq_true rfl) (Nat.le_of_ble_eq_true rfl) dX3_copyFrom_107 (fun H locs hw => ?_)
  refine r_aload0 C hl 1 rfl dX3_copyFrom_110 ?_
  refine r_get C hw _ (gx_h pO_o) 9 fl_X3_44 rfl dX3_copyFrom_111 ?_
  refine lv_iconst (v := 0) C.1 C.2.1 dX3_copyFrom_114 (by decide) ?_
  refine r_aload0 C hl 0 rfl dX3_copyFrom_115 ?_
  refine r_get C hw _ (gx_t (gx_h pO_o)) 9 fl_X3_44 rfl dX3_copyFrom_116 ?_
  refine lv_iconst (v := 0) C.1 C.2.1 dX3_copyFrom_119 (by decide) ?_
  refine lv_sipush (v := 480) C.1 C.2.1 dX3_copyFrom_120 (by decide) ?_
  obtain ⟨p_ad10, e10, hf⟩ := bx hf
  refine r_copy C hw hl.1 acl_X3_75 _ _ (gx_h pO_g9) (gx_t (gx_h pO_g9)) e10 (pO G aa p_aa ++ (pO G ad p_ad10 ++ (zO G aa z_aa ++ (zO G ad u4 ++ [])))) (fun h => (sx_t (sx_h pO_g9 (pO_s9 h)))) (Nat.le_of_ble_eq_true rfl) (Nat.le_of_ble_eq_true rfl) dX3_copyFrom_123 (fun H locs hw => ?_)
  refine r_aload0 C hl 1 rfl dX3_copyFrom_126 ?_
  refine r_get C hw _ (gx_h pO_o) 10 fl_X3_47 rfl dX3_copyFrom_127 ?_
  refine lv_iconst (v := 0) C.1 C.2.1 dX3_copyFrom_130 (by decide) ?_
  refine r_aload0 C hl 0 rfl dX3_copyFrom_131 ?_
  refine r_get C hw _ (gx_t (gx_h pO_o)) 10 fl_X3_47 rfl dX3_copyFrom_132 ?_
  refine lv_iconst (v := 0) C.1 C.2.1 dX3_copyFrom_135 (by decide) ?_
  refine lv_bipush (v := 30) C.1 C.2.1 dX3_copyFrom_136 (by decide) ?_
  obtain ⟨p_ad11, e11, hf⟩ := bx hf
  refine r_copy C hw hl.1 acl_X3_75 _ _ (gx_h pO_g10) (gx_t (gx_h pO_g10)) e11 (pO G aa p_aa ++ (pO G ad p_ad11 ++ (zO G aa z_aa ++ (zO G ad u4 ++ [])))) (fun h => (sx_t (sx_h pO_g10 (pO_s10 h)))) (Nat.le_of_ble_eq_true rfl) (Nat.le_of_ble_eq_true rfl) dX3_copyFrom_138 (fun H locs hw => ?_)
  refine r_aload0 C hl 0 rfl dX3_copyFrom_141 ?_
  refine r_aload0 C hl 1 rfl dX3_copyFrom_142 ?_
  refine r_get C hw _ (gx_h pO_o) 11 fl_X3_65 rfl dX3_copyFrom_143 ?_
  obtain ⟨p_ad12, e12, hf⟩ := bx hf
  refine r_put C hw _ (gx_t (gx_h pO_o)) 11 fp_X3_65 rfl rfl (Nat.le_of_ble_eq_true rfl) (pO G aa p_aa ++ (pO G ad p_ad12 ++ (zO G aa z_aa ++ (zO G ad u4 ++ [])))) (sx_t (sx_h pO_o (pO_p11 e12))) dX3_copyFrom_146 (fun H locs hw => ?_)
  refine r_aload0 C hl 1 rfl dX3_copyFrom_149 ?_
  refine r_get C hw _ (gx_h pO_o) 12 fl_X3_50 rfl dX3_copyFrom_150 ?_
  refine lv_iconst (v := 0) C.1 C.2.1 dX3_copyFrom_153 (by decide) ?_
  refine r_aload0 C hl 0 rfl dX3_copyFrom_154 ?_
  refine r_get C hw _ (gx_t (gx_h pO_o)) 12 fl_X3_50 rfl dX3_copyFrom_155 ?_
  refine lv_iconst (v := 0) C.1 C.2.1 dX3_copyFrom_158 (by decide) ?_
  refine lv_iconst (v := 4) C.1 C.2.1 dX3_copyFrom_159 (by decide) ?_
  obtain ⟨p_ad13, e13, hf⟩ := bx hf
  refine r_copy C hw hl.1 acl_X3_75 _ _ (gx_h pO_g12) (gx_t (gx_h pO_g12)) e13 (pO G aa p_aa ++ (pO G ad p_ad13 ++ (zO G aa z_aa ++ (zO G ad u4 ++ [])))) (fun h => (sx_t (sx_h pO_g12 (pO_s12 h)))) (Nat.le_of_ble_eq_true rfl) (Nat.le_of_ble_eq_true rfl) dX3_copyFrom_160 (fun H locs hw => ?_)
  refine r_aload0 C hl 0 rfl dX3_copyFrom_163 ?_
  refine lv_iconst (v := 0) C.1 C.2.1 dX3_copyFrom_164 (by decide) ?_
  obtain ⟨p_ad14, e14, hf⟩ := bx hf
  refine r_put C hw _ (gx_t (gx_h pO_o)) 14 fp_X3_68 rfl rfl (Nat.le_of_ble_eq_true rfl) (pO G aa p_aa ++ (pO G ad p_ad14 ++ (zO G aa z_aa ++ (zO G ad u4 ++ [])))) (sx_t (sx_h pO_o (pO_p14 e14))) dX3_copyFrom_165 (fun H locs hw => ?_)
  exact fin_v C hw (Option.some.inj hf) (fun o => (pO G aa p_aa ++ (pO G ad o.1 ++ (zO G aa z_aa ++ (zO G ad o.2 ++ []))))) rfl dX3_copyFrom_168
set_option maxHeartbeats 4000000 in
set_option maxRecDepth 100000 in
theorem c_X3_countAt (l : Launch) (G : GG) (ad : Nat → Nat) (sz : Nat) (p_ad : Pic) (x1 : Int32) (out : Int32) (hf : f_X3_countAt p_ad x1 = some out) : Met l yX3_countAt (.code yX3_countAt cX3_countAt 4 (some .int) :: BT) ({ frames := 0, cells := 0, slots := 0, locals := 0 }) (va_Pc [.ref (ad 99), .int x1] (PreW G sz (pO G ad p_ad ++ []))) (Ans G out (va_A (pO G ad p_ad ++ []) sz) (pO G ad p_ad ++ [])) 0 0 (va_A (pO G ad p_ad ++ []) sz) := by
  refine Met.into (by decide) (Nat.le_of_ble_eq_true rfl) ?_
  intro p e s m below meth c C hsz ls hl hw
  have hl : lv_has ls 4 [(0, .ref (ad 99)), (1, .int x1)] := hl
  clear hsz
  generalize va_A (pO G ad p_ad ++ []) sz = A at hw ⊢
  have hB_4 : ∀ (k4 : Int32 → Int32 → Option (Int32)) (hk4 : ∀ (v2 : Int32) (v3 : Int32), k4 v2 v3 = some out → ∀ (H : Heap) (locs : List Loc), Wd G A s H locs (pO G ad p_ad ++ []) → ∀ ls : Array Slot, lv_has ls 4 [(0, .ref (ad 99)), (1, .int x1), (2, .int v2), (3, .int v3)] → W p l e ({ frames := 0, cells := 0, slots := 0, locals := 0 }) s m [.ref (ad 99), .int x1].toArray below meth c H locs 0 0 (MQ below (Ans G out A (pO G ad p_ad ++ [])) [.ref (ad 99), .int x1].toArray s 0 0 A) (F0 m 4 ls [])), ∀ (v2 : Int32) (v3 : Int32), b_X3_countAt_4 p_ad x1 k4 v2 v3 = some out → ∀ (H : Heap) (locs : List Loc), Wd G A s H locs (pO G ad p_ad ++ []) → ∀ ls : Array Slot, lv_has ls 4 [(0, .ref (ad 99)), (1, .int x1), (2, .int v2), (3, .int v3)] → W p l e ({ frames := 0, cells := 0, slots := 0, locals := 0 }) s m [.ref (ad 99), .int x1].toArray below meth c H locs 0 0 (MQ below (Ans G out A (pO G ad p_ad ++ [])) [.ref (ad 99), .int x1].toArray s 0 0 A) (F0 m 4 ls []) := by
    intro k4 hk4 v2 v3 hf H locs hw ls hl
    unfold b_X3_countAt_4 at hf
    refine r_iload0 C hl 3 rfl dX3_countAt_4 ?_
    refine lv_bipush (v := 30) C.1 C.2.1 dX3_countAt_5 (by decide) ?_
    refine lv_icmp_ge (tgt := 34) C.1 C.2.1 dX3_countAt_7 (by decide) (fun hc => ?_) (fun hc => ?_)
    · replace hf := ifp hf hc
      refine r_iload0 C hl 2 rfl dX3_countAt_34 ?_
      exact fin_i C hw (Option.some.inj hf) (fun o => o) (fun o => (pO G ad p_ad ++ [])) rfl rfl dX3_countAt_35
    · replace hf := ifn hf hc
      refine r_iload0 C hl 2 rfl dX3_countAt_10 ?_
      refine r_aload0 C hl 0 rfl dX3_countAt_11 ?_
      refine r_get C hw _ (gx_h pO_o) 4 fl_X3_28 rfl dX3_countAt_12 ?_
      refine r_iload0 C hl 3 rfl dX3_countAt_15 ?_
      obtain ⟨v1_, e1, hf⟩ := bx hf
      refine r_iald C hw _ (gx_h pO_g4) e1 dX3_countAt_16 ?_
      refine r_iload0 C hl 1 rfl dX3_countAt_17 ?_
      refine lv_icmp_ne (tgt := 25) C.1 C.2.1 dX3_countAt_18 (by decide) (fun hc => ?_) (fun hc => ?_)
      · replace hf := ifn hf hc
        refine lv_iconst (v := 0) C.1 C.2.1 dX3_countAt_25 (by decide) ?_
        refine lv_iadd C.1 C.2.1 dX3_countAt_26 ?_
        refine r_istore0 C hl [(2, .int (v2 + 0)), (0, .ref (ad 99)), (1, .int x1), (3, .int v3)] (by decide) rfl dX3_countAt_27 (fun ls hl => ?_)
        refine r_iinc C hl 3 (v3 + 1) [(3, .int (v3 + 1)), (2, .int (v2 + 0)), (0, .ref (ad 99)), (1, .int x1)] rfl (iinc_e (by decide)) (by decide) rfl dX3_countAt_28 (fun ls hl => ?_)
        refine lv_goto (tgt := 4) C.1 C.2.1 dX3_countAt_31 (by decide) ?_
        exact hk4 (v2 + 0) (v3 + 1) hf _ _ hw _ (lv_sub hl [2, 3, 1, 0] rfl)
      · replace hf := ifp hf hc
        refine lv_iconst (v := 1) C.1 C.2.1 dX3_countAt_21 (by decide) ?_
        refine lv_goto (tgt := 26) C.1 C.2.1 dX3_countAt_22 (by decide) ?_
        refine lv_iadd C.1 C.2.1 dX3_countAt_26 ?_
        refine r_istore0 C hl [(2, .int (v2 + 1)), (0, .ref (ad 99)), (1, .int x1), (3, .int v3)] (by decide) rfl dX3_countAt_27 (fun ls hl => ?_)
        refine r_iinc C hl 3 (v3 + 1) [(3, .int (v3 + 1)), (2, .int (v2 + 1)), (0, .ref (ad 99)), (1, .int x1)] rfl (iinc_e (by decide)) (by decide) rfl dX3_countAt_28 (fun ls hl => ?_)
        refine lv_goto (tgt := 4) C.1 C.2.1 dX3_countAt_31 (by decide) ?_
        exact hk4 (v2 + 1) (v3 + 1) hf _ _ hw _ (lv_sub hl [2, 3, 1, 0] rfl)
  have hL_4 : ∀ n : Nat, ∀ (v2 : Int32) (v3 : Int32), L_X3_countAt_4 p_ad x1  n v2 v3 = some out → ∀ (H : Heap) (locs : List Loc), Wd G A s H locs (pO G ad p_ad ++ []) → ∀ ls : Array Slot, lv_has ls 4 [(0, .ref (ad 99)), (1, .int x1), (2, .int v2), (3, .int v3)] → W p l e ({ frames := 0, cells := 0, slots := 0, locals := 0 }) s m [.ref (ad 99), .int x1].toArray below meth c H locs 0 0 (MQ below (Ans G out A (pO G ad p_ad ++ [])) [.ref (ad 99), .int x1].toArray s 0 0 A) (F0 m 4 ls []) := by
    intro  n
    induction n with
    | zero => intro v2 v3 hf; cases hf
    | succ n ih => exact hB_4 _ ih
  unfold f_X3_countAt at hf
  refine lv_iconst (v := 0) C.1 C.2.1 dX3_countAt_0 (by decide) ?_
  refine r_istore0 C hl [(2, .int 0), (0, .ref (ad 99)), (1, .int x1)] (by decide) rfl dX3_countAt_1 (fun ls hl => ?_)
  refine lv_iconst (v := 0) C.1 C.2.1 dX3_countAt_2 (by decide) ?_
  refine r_istore0 C hl [(3, .int 0), (2, .int 0), (0, .ref (ad 99)), (1, .int x1)] (by decide) rfl dX3_countAt_3 (fun ls hl => ?_)
  exact hL_4  FU 0 0 hf _ _ hw _ (lv_sub hl [2, 3, 1, 0] rfl)
set_option maxHeartbeats 4000000 in
set_option maxRecDepth 100000 in
theorem c_X3_unitsTaken (l : Launch) (G : GG) (ad : Nat → Nat) (sz : Nat) (p_ad : Pic)  (out : Int32) (hf : f_X3_unitsTaken p_ad = some out) : Met l yX3_unitsTaken (.code yX3_unitsTaken cX3_unitsTaken 3 (some .int) :: BT) ({ frames := 0, cells := 0, slots := 0, locals := 0 }) (va_Pc [.ref (ad 99)] (PreW G sz (pO G ad p_ad ++ []))) (Ans G out (va_A (pO G ad p_ad ++ []) sz) (pO G ad p_ad ++ [])) 0 0 (va_A (pO G ad p_ad ++ []) sz) := by
  refine Met.into (by decide) (Nat.le_of_ble_eq_true rfl) ?_
  intro p e s m below meth c C hsz ls hl hw
  have hl : lv_has ls 3 [(0, .ref (ad 99))] := hl
  clear hsz
  generalize va_A (pO G ad p_ad ++ []) sz = A at hw ⊢
  have hB_4 : ∀ (k4 : Int32 → Int32 → Option (Int32)) (hk4 : ∀ (v1 : Int32) (v2 : Int32), k4 v1 v2 = some out → ∀ (H : Heap) (locs : List Loc), Wd G A s H locs (pO G ad p_ad ++ []) → ∀ ls : Array Slot, lv_has ls 3 [(0, .ref (ad 99)), (1, .int v1), (2, .int v2)] → W p l e ({ frames := 0, cells := 0, slots := 0, locals := 0 }) s m [.ref (ad 99)].toArray below meth c H locs 0 0 (MQ below (Ans G out A (pO G ad p_ad ++ [])) [.ref (ad 99)].toArray s 0 0 A) (F0 m 4 ls [])), ∀ (v1 : Int32) (v2 : Int32), b_X3_unitsTaken_4 p_ad k4 v1 v2 = some out → ∀ (H : Heap) (locs : List Loc), Wd G A s H locs (pO G ad p_ad ++ []) → ∀ ls : Array Slot, lv_has ls 3 [(0, .ref (ad 99)), (1, .int v1), (2, .int v2)] → W p l e ({ frames := 0, cells := 0, slots := 0, locals := 0 }) s m [.ref (ad 99)].toArray below meth c H locs 0 0 (MQ below (Ans G out A (pO G ad p_ad ++ [])) [.ref (ad 99)].toArray s 0 0 A) (F0 m 4 ls []) := by
    intro k4 hk4 v1 v2 hf H locs hw ls hl
    unfold b_X3_unitsTaken_4 at hf
    refine r_iload0 C hl 2 rfl dX3_unitsTaken_4 ?_
    refine lv_bipush (v := 30) C.1 C.2.1 dX3_unitsTaken_5 (by decide) ?_
    refine lv_icmp_ge (tgt := 39) C.1 C.2.1 dX3_unitsTaken_7 (by decide) (fun hc => ?_) (fun hc => ?_)
    · replace hf := ifp hf hc
      refine r_iload0 C hl 1 rfl dX3_unitsTaken_39 ?_
      exact fin_i C hw (Option.some.inj hf) (fun o => o) (fun o => (pO G ad p_ad ++ [])) rfl rfl dX3_unitsTaken_40
    · replace hf := ifn hf hc
      refine r_iload0 C hl 1 rfl dX3_unitsTaken_10 ?_
      refine r_aload0 C hl 0 rfl dX3_unitsTaken_11 ?_
      refine r_get C hw _ (gx_h pO_o) 4 fl_X3_28 rfl dX3_unitsTaken_12 ?_
      refine r_iload0 C hl 2 rfl dX3_unitsTaken_15 ?_
      obtain ⟨v1_, e1, hf⟩ := bx hf
      refine r_iald C hw _ (gx_h pO_g4) e1 dX3_unitsTaken_16 ?_
      refine lv_iconst (v := 2) C.1 C.2.1 dX3_unitsTaken_17 (by decide) ?_
      refine lv_icmp_ne (tgt := 30) C.1 C.2.1 dX3_unitsTaken_18 (by decide) (fun hc => ?_) (fun hc => ?_)
      · replace hf := ifn hf hc
        refine lv_iconst (v := 0) C.1 C.2.1 dX3_unitsTaken_30 (by decide) ?_
        refine lv_iadd C.1 C.2.1 dX3_unitsTaken_31 ?_
        refine r_istore0 C hl [(1, .int (v1 + 0)), (0, .ref (ad 99)), (2, .int v2)] (by decide) rfl dX3_unitsTaken_32 (fun ls hl => ?_)
        refine r_iinc C hl 2 (v2 + 1) [(2, .int (v2 + 1)), (1, .int (v1 + 0)), (0, .ref (ad 99))] rfl (iinc_e (by decide)) (by decide) rfl dX3_unitsTaken_33 (fun ls hl => ?_)
        refine lv_goto (tgt := 4) C.1 C.2.1 dX3_unitsTaken_36 (by decide) ?_
        exact hk4 (v1 + 0) (v2 + 1) hf _ _ hw _ (lv_sub hl [2, 1, 0] rfl)
      · replace hf := ifp hf hc
        refine r_aload0 C hl 0 rfl dX3_unitsTaken_21 ?_
        refine r_get C hw _ (gx_h pO_o) 5 fl_X3_32 rfl dX3_unitsTaken_22 ?_
        refine r_iload0 C hl 2 rfl dX3_unitsTaken_25 ?_
        obtain ⟨v2_, e2, hf⟩ := bx hf
        refine r_iald C hw _ (gx_h pO_g5) e2 dX3_unitsTaken_26 ?_
        refine lv_goto (tgt := 31) C.1 C.2.1 dX3_unitsTaken_27 (by decide) ?_
        refine lv_iadd C.1 C.2.1 dX3_unitsTaken_31 ?_
        refine r_istore0 C hl [(1, .int (v1 + v2_)), (0, .ref (ad 99)), (2, .int v2)] (by decide) rfl dX3_unitsTaken_32 (fun ls hl => ?_)
        refine r_iinc C hl 2 (v2 + 1) [(2, .int (v2 + 1)), (1, .int (v1 + v2_)), (0, .ref (ad 99))] rfl (iinc_e (by decide)) (by decide) rfl dX3_unitsTaken_33 (fun ls hl => ?_)
        refine lv_goto (tgt := 4) C.1 C.2.1 dX3_unitsTaken_36 (by decide) ?_
        exact hk4 (v1 + v2_) (v2 + 1) hf _ _ hw _ (lv_sub hl [2, 1, 0] rfl)
  have hL_4 : ∀ n : Nat, ∀ (v1 : Int32) (v2 : Int32), L_X3_unitsTaken_4 p_ad  n v1 v2 = some out → ∀ (H : Heap) (locs : List Loc), Wd G A s H locs (pO G ad p_ad ++ []) → ∀ ls : Array Slot, lv_has ls 3 [(0, .ref (ad 99)), (1, .int v1), (2, .int v2)] → W p l e ({ frames := 0, cells := 0, slots := 0, locals := 0 }) s m [.ref (ad 99)].toArray below meth c H locs 0 0 (MQ below (Ans G out A (pO G ad p_ad ++ [])) [.ref (ad 99)].toArray s 0 0 A) (F0 m 4 ls []) := by
    intro  n
    induction n with
    | zero => intro v1 v2 hf; cases hf
    | succ n ih => exact hB_4 _ ih
  unfold f_X3_unitsTaken at hf
  refine lv_iconst (v := 0) C.1 C.2.1 dX3_unitsTaken_0 (by decide) ?_
  refine r_istore0 C hl [(1, .int 0), (0, .ref (ad 99))] (by decide) rfl dX3_unitsTaken_1 (fun ls hl => ?_)
  refine lv_iconst (v := 0) C.1 C.2.1 dX3_unitsTaken_2 (by decide) ?_
  refine r_istore0 C hl [(2, .int 0), (1, .int 0), (0, .ref (ad 99))] (by decide) rfl dX3_unitsTaken_3 (fun ls hl => ?_)
  exact hL_4  FU 0 0 hf _ _ hw _ (lv_sub hl [2, 1, 0] rfl)
set_option maxHeartbeats 4000000 in
set_option maxRecDepth 100000 in
theorem c_X3_ageOf (l : Launch) (G : GG) (ad : Nat → Nat) (sz : Nat) (p_ad : Pic) (x1 : Int32) (out : Int32) (hf : f_X3_ageOf p_ad x1 = some out) : Met l yX3_ageOf (.code yX3_ageOf cX3_ageOf 3 (some .int) :: BT) ({ frames := 0, cells := 0, slots := 0, locals := 0 }) (va_Pc [.ref (ad 99), .int x1] (PreW G sz (pO G ad p_ad ++ []))) (Ans G out (va_A (pO G ad p_ad ++ []) sz) (pO G ad p_ad ++ [])) 0 0 (va_A (pO G ad p_ad ++ []) sz) := by
  refine Met.into (by decide) (Nat.le_of_ble_eq_true rfl) ?_
  intro p e s m below meth c C hsz ls hl hw
  have hl : lv_has ls 3 [(0, .ref (ad 99)), (1, .int x1)] := hl
  clear hsz
  generalize va_A (pO G ad p_ad ++ []) sz = A at hw ⊢
  have hB_2 : ∀ (k2 : Int32 → Option (Int32)) (hk2 : ∀ (v2 : Int32), k2 v2 = some out → ∀ (H : Heap) (locs : List Loc), Wd G A s H locs (pO G ad p_ad ++ []) → ∀ ls : Array Slot, lv_has ls 3 [(0, .ref (ad 99)), (1, .int x1), (2, .int v2)] → W p l e ({ frames := 0, cells := 0, slots := 0, locals := 0 }) s m [.ref (ad 99), .int x1].toArray below meth c H locs 0 0 (MQ below (Ans G out A (pO G ad p_ad ++ [])) [.ref (ad 99), .int x1].toArray s 0 0 A) (F0 m 2 ls [])), ∀ (v2 : Int32), b_X3_ageOf_2 p_ad x1 k2 v2 = some out → ∀ (H : Heap) (locs : List Loc), Wd G A s H locs (pO G ad p_ad ++ []) → ∀ ls : Array Slot, lv_has ls 3 [(0, .ref (ad 99)), (1, .int x1), (2, .int v2)] → W p l e ({ frames := 0, cells := 0, slots := 0, locals := 0 }) s m [.ref (ad 99), .int x1].toArray below meth c H locs 0 0 (MQ below (Ans G out A (pO G ad p_ad ++ [])) [.ref (ad 99), .int x1].toArray s 0 0 A) (F0 m 2 ls []) := by
    intro k2 hk2 v2 hf H locs hw ls hl
    unfold b_X3_ageOf_2 at hf
    refine r_iload0 C hl 2 rfl dX3_ageOf_2 ?_
    refine r_aload0 C hl 0 rfl dX3_ageOf_3 ?_
    refine r_get C hw _ (gx_h pO_o) 11 fl_X3_65 rfl dX3_ageOf_4 ?_
    refine lv_icmp_ge (tgt := 34) C.1 C.2.1 dX3_ageOf_7 (by decide) (fun hc => ?_) (fun hc => ?_)
    · replace hf := ifp hf hc
      refine lv_iconst (v := (-1)) C.1 C.2.1 dX3_ageOf_34 (by decide) ?_
      exact fin_i C hw (Option.some.inj hf) (fun o => o) (fun o => (pO G ad p_ad ++ [])) rfl rfl dX3_ageOf_35
    · replace hf := ifn hf hc
      refine r_iload0 C hl 2 rfl dX3_ageOf_10 ?_
      refine lv_bipush (v := 30) C.1 C.2.1 dX3_ageOf_11 (by decide) ?_
      refine lv_icmp_ge (tgt := 34) C.1 C.2.1 dX3_ageOf_13 (by decide) (fun hc => ?_) (fun hc => ?_)
      · replace hf := ifp hf hc
        refine lv_iconst (v := (-1)) C.1 C.2.1 dX3_ageOf_34 (by decide) ?_
        exact fin_i C hw (Option.some.inj hf) (fun o => o) (fun o => (pO G ad p_ad ++ [])) rfl rfl dX3_ageOf_35
      · replace hf := ifn hf hc
        refine r_aload0 C hl 0 rfl dX3_ageOf_16 ?_
        refine r_get C hw _ (gx_h pO_o) 10 fl_X3_47 rfl dX3_ageOf_17 ?_
        refine r_iload0 C hl 2 rfl dX3_ageOf_20 ?_
        obtain ⟨v1_, e1, hf⟩ := bx hf
        refine r_iald C hw _ (gx_h pO_g10) e1 dX3_ageOf_21 ?_
        refine r_iload0 C hl 1 rfl dX3_ageOf_22 ?_
        refine lv_icmp_ne (tgt := 28) C.1 C.2.1 dX3_ageOf_23 (by decide) (fun hc => ?_) (fun hc => ?_)
        · replace hf := ifn hf hc
          refine r_iinc C hl 2 (v2 + 1) [(2, .int (v2 + 1)), (0, .ref (ad 99)), (1, .int x1)] rfl (iinc_e (by decide)) (by decide) rfl dX3_ageOf_28 (fun ls hl => ?_)
          refine lv_goto (tgt := 2) C.1 C.2.1 dX3_ageOf_31 (by decide) ?_
          exact hk2 (v2 + 1) hf _ _ hw _ (lv_sub hl [1, 2, 0] rfl)
        · replace hf := ifp hf hc
          refine r_iload0 C hl 2 rfl dX3_ageOf_26 ?_
          exact fin_i C hw (Option.some.inj hf) (fun o => o) (fun o => (pO G ad p_ad ++ [])) rfl rfl dX3_ageOf_27
  have hL_2 : ∀ n : Nat, ∀ (v2 : Int32), L_X3_ageOf_2 p_ad x1  n v2 = some out → ∀ (H : Heap) (locs : List Loc), Wd G A s H locs (pO G ad p_ad ++ []) → ∀ ls : Array Slot, lv_has ls 3 [(0, .ref (ad 99)), (1, .int x1), (2, .int v2)] → W p l e ({ frames := 0, cells := 0, slots := 0, locals := 0 }) s m [.ref (ad 99), .int x1].toArray below meth c H locs 0 0 (MQ below (Ans G out A (pO G ad p_ad ++ [])) [.ref (ad 99), .int x1].toArray s 0 0 A) (F0 m 2 ls []) := by
    intro  n
    induction n with
    | zero => intro v2 hf; cases hf
    | succ n ih => exact hB_2 _ ih
  unfold f_X3_ageOf at hf
  refine lv_iconst (v := 0) C.1 C.2.1 dX3_ageOf_0 (by decide) ?_
  refine r_istore0 C hl [(2, .int 0), (0, .ref (ad 99)), (1, .int x1)] (by decide) rfl dX3_ageOf_1 (fun ls hl => ?_)
  exact hL_2  FU 0 hf _ _ hw _ (lv_sub hl [1, 2, 0] rfl)
set_option maxHeartbeats 4000000 in
set_option maxRecDepth 100000 in
theorem c_X3_zoneFor (l : Launch) (G : GG) (ad : Nat → Nat) (sz : Nat) (p_ad : Pic) (z_ad : Pic) (x1 : Int32) (out : Int32) (hf : f_X3_zoneFor p_ad z_ad x1 = some out) : Met l yX3_zoneFor (.code yX3_zoneFor cX3_zoneFor 3 (some .int) :: BT) ({ frames := 2, cells := 0, slots := 0, locals := 46 }) (va_Pc [.ref (ad 99), .int x1] (PreW G sz (pO G ad p_ad ++ (zO G ad z_ad ++ [])))) (Ans G out (va_A (pO G ad p_ad ++ (zO G ad z_ad ++ [])) sz) (pO G ad p_ad ++ (zO G ad z_ad ++ []))) 0 0 (va_A (pO G ad p_ad ++ (zO G ad z_ad ++ [])) sz) := by
  refine Met.into (by decide) (Nat.le_of_ble_eq_true rfl) ?_
  intro p e s m below meth c C hsz ls hl hw
  have hl : lv_has ls 3 [(0, .ref (ad 99)), (1, .int x1)] := hl
  clear hsz
  generalize va_A (pO G ad p_ad ++ (zO G ad z_ad ++ [])) sz = A at hw ⊢
  unfold f_X3_zoneFor at hf
  refine r_aload0 C hl 0 rfl dX3_zoneFor_0 ?_
  refine r_get C hw _ (gx_h pO_o) 3 fl_X3_24 rfl dX3_zoneFor_1 ?_
  refine r_iload0 C hl 1 rfl dX3_zoneFor_4 ?_
  refine lv_iconst (v := (-1)) C.1 C.2.1 dX3_zoneFor_5 (by decide) ?_
  obtain ⟨u1, e1, hf⟩ := bx hf
  refine r_callVi (ws' := (pO G ad p_ad ++ (zO G ad z_ad ++ []))) (As := [.int x1, .int (-1)]) (rest := []) C hw hl.1 kX7_fullest ml_X3_95 (c_X7_fullest l G ad _ z_ad x1 (-1) u1 e1) (CutX.skip (CutX.take zO_f CutX.none)) _ (gx_t (gx_h zO_o)) rfl ⟨rfl, rfl⟩ ⟨Nat.le_of_ble_eq_true rfl, Nat.le_of_ble_eq_true rfl⟩ rfl ⟨Nat.zero_le _, Nat.zero_le _⟩ rfl (Nat.le_of_ble_eq_true rfl) dX3_zoneFor_6 (fun H locs hw => ?_)
  refine r_istore0 C hl [(2, .int u1), (0, .ref (ad 99)), (1, .int x1)] (by decide) rfl dX3_zoneFor_9 (fun ls hl => ?_)
  refine r_iload0 C hl 0 rfl dX3_zoneFor_10 ?_
  refine lv_if_lt (tgt := 16) C.1 C.2.1 dX3_zoneFor_11 (by decide) (fun hc => ?_) (fun hc => ?_)
  · replace hf := ifp hf hc
    refine r_aload0 C hl 1 rfl dX3_zoneFor_16 ?_
    refine r_get C hw _ (gx_h pO_o) 3 fl_X3_24 rfl dX3_zoneFor_17 ?_
    obtain ⟨u2, e2, hf⟩ := bx hf
    refine r_callVi (ws' := (pO G ad p_ad ++ (zO G ad z_ad ++ []))) (As := []) (rest := []) C hw hl.1 kX7_freeNumber ml_X3_98 (c_X7_freeNumber l G ad _ z_ad u2 e2) (CutX.skip (CutX.take zO_f CutX.none)) _ (gx_t (gx_h zO_o)) rfl ⟨rfl, rfl⟩ ⟨Nat.le_of_ble_eq_true rfl, Nat.le_of_ble_eq_true rfl⟩ rfl ⟨Nat.zero_le _, Nat.zero_le _⟩ rfl (Nat.le_of_ble_eq_true rfl) dX3_zoneFor_20 (fun H locs hw => ?_)
    refine r_istore0 C hl [(2, .int u2), (0, .ref (ad 99)), (1, .int x1)] (by decide) rfl dX3_zoneFor_23 (fun ls hl => ?_)
    refine r_iload0 C hl 0 rfl dX3_zoneFor_24 ?_
    refine lv_if_lt (tgt := 51) C.1 C.2.1 dX3_zoneFor_25 (by decide) (fun hc => ?_) (fun hc => ?_)
    · replace hf := ifp hf hc
      refine lv_bipush (v := (-2)) C.1 C.2.1 dX3_zoneFor_51 (by decide) ?_
      exact fin_i C hw (Option.some.inj hf) (fun o => o) (fun o => (pO G ad p_ad ++ (zO G ad z_ad ++ []))) rfl rfl dX3_zoneFor_53
    · replace hf := ifn hf hc
      refine r_aload0 C hl 1 rfl dX3_zoneFor_28 ?_
      refine r_get C hw _ (gx_h pO_o) 3 fl_X3_24 rfl dX3_zoneFor_29 ?_
      refine r_get C hw _ (gx_t (gx_h zO_o)) 0 fl_X3_102 rfl dX3_zoneFor_32 ?_
      refine r_iload0 C hl 2 rfl dX3_zoneFor_35 ?_
      obtain ⟨u3, e3, hf⟩ := bx hf
      refine r_callSi (ws' := (pO G ad p_ad ++ (zO G ad z_ad ++ []))) (As := [.int x1]) (rest := [.int (gS z_ad 0)]) C hw hl.1 kX0_framesOf ml_X3_105 (c_X0_framesOf l G _ x1 u3 e3) CutX.none ⟨rfl, rfl⟩ ⟨Nat.le_of_ble_eq_true rfl, Nat.le_of_ble_eq_true rfl⟩ rfl ⟨Nat.zero_le _, Nat.zero_le _⟩ rfl (Nat.le_of_ble_eq_true rfl) dX3_zoneFor_36 (fun H locs hw => ?_)
      refine lv_iadd C.1 C.2.1 dX3_zoneFor_39 ?_
      refine r_aload0 C hl 1 rfl dX3_zoneFor_40 ?_
      refine r_get C hw _ (gx_h pO_o) 0 fl_X3_9 rfl dX3_zoneFor_41 ?_
      refine lv_icmp_gt (tgt := 51) C.1 C.2.1 dX3_zoneFor_44 (by decide) (fun hc => ?_) (fun hc => ?_)
      · replace hf := ifp hf hc
        refine lv_bipush (v := (-2)) C.1 C.2.1 dX3_zoneFor_51 (by decide) ?_
        exact fin_i C hw (Option.some.inj hf) (fun o => o) (fun o => (pO G ad p_ad ++ (zO G ad z_ad ++ []))) rfl rfl dX3_zoneFor_53
      · replace hf := ifn hf hc
        refine r_iload0 C hl 0 rfl dX3_zoneFor_47 ?_
        refine lv_goto (tgt := 53) C.1 C.2.1 dX3_zoneFor_48 (by decide) ?_
        exact fin_i C hw (Option.some.inj hf) (fun o => o) (fun o => (pO G ad p_ad ++ (zO G ad z_ad ++ []))) rfl rfl dX3_zoneFor_53
  · replace hf := ifn hf hc
    refine r_iload0 C hl 0 rfl dX3_zoneFor_14 ?_
    exact fin_i C hw (Option.some.inj hf) (fun o => o) (fun o => (pO G ad p_ad ++ (zO G ad z_ad ++ []))) rfl rfl dX3_zoneFor_15
set_option maxHeartbeats 4000000 in
set_option maxRecDepth 100000 in
theorem c_X3_notePushed (l : Launch) (G : GG) (ad : Nat → Nat) (sz : Nat) (p_ad : Pic) (x1 : Int32) (out : Pic) (hf : f_X3_notePushed p_ad x1 = some out) : Met l yX3_notePushed (.code yX3_notePushed cX3_notePushed 2 none :: BT) ({ frames := 0, cells := 0, slots := 0, locals := 0 }) (va_Pc [.ref (ad 99), .int x1] (PreW G sz (pO G ad p_ad ++ []))) (Don G (va_A (pO G ad p_ad ++ []) sz) (pO G ad out ++ [])) 0 0 (va_A (pO G ad p_ad ++ []) sz) := by
  refine Met.into (by decide) (Nat.le_of_ble_eq_true rfl) ?_
  intro p e s m below meth c C hsz ls hl hw
  have hl : lv_has ls 2 [(0, .ref (ad 99)), (1, .int x1)] := hl
  clear hsz
  generalize va_A (pO G ad p_ad ++ []) sz = A at hw ⊢
  unfold f_X3_notePushed at hf
  refine r_aload0 C hl 0 rfl dX3_notePushed_0 ?_
  refine r_get C hw _ (gx_h pO_o) 12 fl_X3_50 rfl dX3_notePushed_1 ?_
  refine lv_iconst (v := 1) C.1 C.2.1 dX3_notePushed_4 (by decide) ?_
  refine lv_dup2_11 C.1 C.2.1 dX3_notePushed_5 rfl rfl ?_
  obtain ⟨v1_, e1, hf⟩ := bx hf
  refine r_iald C hw _ (gx_h pO_g12) e1 dX3_notePushed_6 ?_
  refine lv_iconst (v := 1) C.1 C.2.1 dX3_notePushed_7 (by decide) ?_
  refine lv_iadd C.1 C.2.1 dX3_notePushed_8 ?_
  obtain ⟨p_ad2, e2, hf⟩ := bx hf
  refine r_iast C hw _ (gx_h pO_g12) e2 (pO G ad p_ad2 ++ []) (fun h => (sx_h pO_g12 (pO_s12 h))) dX3_notePushed_9 (fun H locs hw => ?_)
  refine r_aload0 C hl 0 rfl dX3_notePushed_10 ?_
  refine r_get C hw _ (gx_h pO_o) 14 fl_X3_68 rfl dX3_notePushed_11 ?_
  refine lv_bipush (v := 30) C.1 C.2.1 dX3_notePushed_14 (by decide) ?_
  refine lv_icmp_ge (tgt := 39) C.1 C.2.1 dX3_notePushed_16 (by decide) (fun hc => ?_) (fun hc => ?_)
  · replace hf := ifp hf hc
    exact fin_v C hw (Option.some.inj hf) (fun o => (pO G ad o ++ [])) rfl dX3_notePushed_39
  · replace hf := ifn hf hc
    refine r_aload0 C hl 0 rfl dX3_notePushed_19 ?_
    refine r_get C hw _ (gx_h pO_o) 13 fl_X3_53 rfl dX3_notePushed_20 ?_
    refine r_aload0 C hl 0 rfl dX3_notePushed_23 ?_
    refine r_get C hw _ (gx_h pO_o) 14 fl_X3_68 rfl dX3_notePushed_24 ?_
    refine r_iload0 C hl 1 rfl dX3_notePushed_27 ?_
    obtain ⟨p_ad3, e3, hf⟩ := bx hf
    refine r_iast C hw _ (gx_h pO_g13) e3 (pO G ad p_ad3 ++ []) (fun h => (sx_h pO_g13 (pO_s13 h))) dX3_notePushed_28 (fun H locs hw => ?_)
    refine r_aload0 C hl 0 rfl dX3_notePushed_29 ?_
    refine lv_dup C.1 C.2.1 dX3_notePushed_30 rfl ?_
    refine r_get C hw _ (gx_h pO_o) 14 fl_X3_68 rfl dX3_notePushed_31 ?_
    refine lv_iconst (v := 1) C.1 C.2.1 dX3_notePushed_34 (by decide) ?_
    refine lv_iadd C.1 C.2.1 dX3_notePushed_35 ?_
    obtain ⟨p_ad4, e4, hf⟩ := bx hf
    refine r_put C hw _ (gx_h pO_o) 14 fp_X3_68 rfl rfl (Nat.le_of_ble_eq_true rfl) (pO G ad p_ad4 ++ []) (sx_h pO_o (pO_p14 e4)) dX3_notePushed_36 (fun H locs hw => ?_)
    exact fin_v C hw (Option.some.inj hf) (fun o => (pO G ad o ++ [])) rfl dX3_notePushed_39
set_option maxHeartbeats 4000000 in
set_option maxRecDepth 100000 in
theorem c_X3_leaveAges (l : Launch) (G : GG) (ad : Nat → Nat) (sz : Nat) (p_ad : Pic) (x1 : Int32) (out : Pic) (hf : f_X3_leaveAges p_ad x1 = some out) : Met l yX3_leaveAges (.code yX3_leaveAges cX3_leaveAges 4 none :: BT) ({ frames := 0, cells := 0, slots := 0, locals := 0 }) (va_Pc [.ref (ad 99), .int x1] (PreW G sz (pO G ad p_ad ++ []))) (Don G (va_A (pO G ad p_ad ++ []) sz) (pO G ad out ++ [])) 0 0 (va_A (pO G ad p_ad ++ []) sz) := by
  refine Met.into (by decide) (Nat.le_of_ble_eq_true rfl) ?_
  intro p e s m below meth c C hsz ls hl hw
  have hl : lv_has ls 4 [(0, .ref (ad 99)), (1, .int x1)] := hl
  clear hsz
  generalize va_A (pO G ad p_ad ++ []) sz = A at hw ⊢
  have hB_49 : ∀ (p_ad : Pic) (v2 : Int32), b_X3_leaveAges_49 x1  p_ad v2 = some out → ∀ (H : Heap) (locs : List Loc), Wd G A s H locs (pO G ad p_ad ++ []) → ∀ ls : Array Slot, lv_has ls 4 [(0, .ref (ad 99)), (2, .int v2)] → W p l e ({ frames := 0, cells := 0, slots := 0, locals := 0 }) s m [.ref (ad 99), .int x1].toArray below meth c H locs 0 0 (MQ below (Don G A (pO G ad out ++ [])) [.ref (ad 99), .int x1].toArray s 0 0 A) (F0 m 49 ls []) := by
    intro p_ad v2 hf H locs hw ls hl
    unfold b_X3_leaveAges_49 at hf
    refine r_aload0 C hl 0 rfl dX3_leaveAges_49 ?_
    refine r_iload0 C hl 1 rfl dX3_leaveAges_50 ?_
    obtain ⟨p_ad1, e1, hf⟩ := bx hf
    refine r_put C hw _ (gx_h pO_o) 11 fp_X3_65 rfl rfl (Nat.le_of_ble_eq_true rfl) (pO G ad p_ad1 ++ []) (sx_h pO_o (pO_p11 e1)) dX3_leaveAges_51 (fun H locs hw => ?_)
    exact fin_v C hw (Option.some.inj hf) (fun o => (pO G ad o ++ [])) rfl dX3_leaveAges_54
  have hB_4 : ∀ (k4 : Pic → Int32 → Int32 → Option (Pic)) (hk4 : ∀ (p_ad : Pic) (v2 : Int32) (v3 : Int32), k4 p_ad v2 v3 = some out → ∀ (H : Heap) (locs : List Loc), Wd G A s H locs (pO G ad p_ad ++ []) → ∀ ls : Array Slot, lv_has ls 4 [(0, .ref (ad 99)), (1, .int x1), (2, .int v2), (3, .int v3)] → W p l e ({ frames := 0, cells := 0, slots := 0, locals := 0 }) s m [.ref (ad 99), .int x1].toArray below meth c H locs 0 0 (MQ below (Don G A (pO G ad out ++ [])) [.ref (ad 99), .int x1].toArray s 0 0 A) (F0 m 4 ls [])), ∀ (p_ad : Pic) (v2 : Int32) (v3 : Int32), b_X3_leaveAges_4 x1 k4 p_ad v2 v3 = some out → ∀ (H : Heap) (locs : List Loc), Wd G A s H locs (pO G ad p_ad ++ []) → ∀ ls : Array Slot, lv_has ls 4 [(0, .ref (ad 99)), (1, .int x1), (2, .int v2), (3, .int v3)] → W p l e ({ frames := 0, cells := 0, slots := 0, locals := 0 }) s m [.ref (ad 99), .int x1].toArray below meth c H locs 0 0 (MQ below (Don G A (pO G ad out ++ [])) [.ref (ad 99), .int x1].toArray s 0 0 A) (F0 m 4 ls []) := by
    intro k4 hk4 p_ad v2 v3 hf H locs hw ls hl
    unfold b_X3_leaveAges_4 at hf
    refine r_iload0 C hl 3 rfl dX3_leaveAges_4 ?_
    refine r_aload0 C hl 0 rfl dX3_leaveAges_5 ?_
    refine r_get C hw _ (gx_h pO_o) 11 fl_X3_65 rfl dX3_leaveAges_6 ?_
    refine lv_icmp_ge (tgt := 49) C.1 C.2.1 dX3_leaveAges_9 (by decide) (fun hc => ?_) (fun hc => ?_)
    · replace hf := ifp hf hc
      exact hB_49  p_ad v2 hf _ _ hw _ (lv_sub hl [0, 2] rfl)
    · replace hf := ifn hf hc
      refine r_iload0 C hl 3 rfl dX3_leaveAges_12 ?_
      refine lv_bipush (v := 30) C.1 C.2.1 dX3_leaveAges_13 (by decide) ?_
      refine lv_icmp_ge (tgt := 49) C.1 C.2.1 dX3_leaveAges_15 (by decide) (fun hc => ?_) (fun hc => ?_)
      · replace hf := ifp hf hc
        exact hB_49  p_ad v2 hf _ _ hw _ (lv_sub hl [0, 2] rfl)
      · replace hf := ifn hf hc
        refine r_aload0 C hl 0 rfl dX3_leaveAges_18 ?_
        refine r_get C hw _ (gx_h pO_o) 10 fl_X3_47 rfl dX3_leaveAges_19 ?_
        refine r_iload0 C hl 3 rfl dX3_leaveAges_22 ?_
        obtain ⟨v2_, e2, hf⟩ := bx hf
        refine r_iald C hw _ (gx_h pO_g10) e2 dX3_leaveAges_23 ?_
        refine r_iload0 C hl 1 rfl dX3_leaveAges_24 ?_
        refine lv_icmp_eq (tgt := 43) C.1 C.2.1 dX3_leaveAges_25 (by decide) (fun hc => ?_) (fun hc => ?_)
        · replace hf := ifp hf hc
          refine r_iinc C hl 3 (v3 + 1) [(3, .int (v3 + 1)), (0, .ref (ad 99)), (1, .int x1), (2, .int v2)] rfl (iinc_e (by decide)) (by decide) rfl dX3_leaveAges_43 (fun ls hl => ?_)
          refine lv_goto (tgt := 4) C.1 C.2.1 dX3_leaveAges_46 (by decide) ?_
          exact hk4 p_ad v2 (v3 + 1) hf _ _ hw _ (lv_sub hl [1, 2, 3, 0] rfl)
        · replace hf := ifn hf hc
          refine r_aload0 C hl 0 rfl dX3_leaveAges_28 ?_
          refine r_get C hw _ (gx_h pO_o) 10 fl_X3_47 rfl dX3_leaveAges_29 ?_
          refine r_iload0 C hl 2 rfl dX3_leaveAges_32 ?_
          refine r_aload0 C hl 0 rfl dX3_leaveAges_33 ?_
          refine r_get C hw _ (gx_h pO_o) 10 fl_X3_47 rfl dX3_leaveAges_34 ?_
          refine r_iload0 C hl 3 rfl dX3_leaveAges_37 ?_
          obtain ⟨v3_, e3, hf⟩ := bx hf
          refine r_iald C hw _ (gx_h pO_g10) e3 dX3_leaveAges_38 ?_
          obtain ⟨p_ad4, e4, hf⟩ := bx hf
          refine r_iast C hw _ (gx_h pO_g10) e4 (pO G ad p_ad4 ++ []) (fun h => (sx_h pO_g10 (pO_s10 h))) dX3_leaveAges_39 (fun H locs hw => ?_)
          refine r_iinc C hl 2 (v2 + 1) [(2, .int (v2 + 1)), (0, .ref (ad 99)), (1, .int x1), (3, .int v3)] rfl (iinc_e (by decide)) (by decide) rfl dX3_leaveAges_40 (fun ls hl => ?_)
          refine r_iinc C hl 3 (v3 + 1) [(3, .int (v3 + 1)), (2, .int (v2 + 1)), (0, .ref (ad 99)), (1, .int x1)] rfl (iinc_e (by decide)) (by decide) rfl dX3_leaveAges_43 (fun ls hl => ?_)
          refine lv_goto (tgt := 4) C.1 C.2.1 dX3_leaveAges_46 (by decide) ?_
          exact hk4 p_ad4 (v2 + 1) (v3 + 1) hf _ _ hw _ (lv_sub hl [2, 3, 1, 0] rfl)
  have hL_4 : ∀ n : Nat, ∀ (p_ad : Pic) (v2 : Int32) (v3 : Int32), L_X3_leaveAges_4 x1  n p_ad v2 v3 = some out → ∀ (H : Heap) (locs : List Loc), Wd G A s H locs (pO G ad p_ad ++ []) → ∀ ls : Array Slot, lv_has ls 4 [(0, .ref (ad 99)), (1, .int x1), (2, .int v2), (3, .int v3)] → W p l e ({ frames := 0, cells := 0, slots := 0, locals := 0 }) s m [.ref (ad 99), .int x1].toArray below meth c H locs 0 0 (MQ below (Don G A (pO G ad out ++ [])) [.ref (ad 99), .int x1].toArray s 0 0 A) (F0 m 4 ls []) := by
    intro  n
    induction n with
    | zero => intro p_ad v2 v3 hf; cases hf
    | succ n ih => exact hB_4 _ ih
  unfold f_X3_leaveAges at hf
  refine lv_iconst (v := 0) C.1 C.2.1 dX3_leaveAges_0 (by decide) ?_
  refine r_istore0 C hl [(2, .int 0), (0, .ref (ad 99)), (1, .int x1)] (by decide) rfl dX3_leaveAges_1 (fun ls hl => ?_)
  refine lv_iconst (v := 0) C.1 C.2.1 dX3_leaveAges_2 (by decide) ?_
  refine r_istore0 C hl [(3, .int 0), (2, .int 0), (0, .ref (ad 99)), (1, .int x1)] (by decide) rfl dX3_leaveAges_3 (fun ls hl => ?_)
  exact hL_4  FU p_ad 0 0 hf _ _ hw _ (lv_sub hl [2, 3, 1, 0] rfl)
set_option maxHeartbeats 4000000 in
set_option maxRecDepth 100000 in
theorem c_X3_addYoungest (l : Launch) (G : GG) (ad : Nat → Nat) (sz : Nat) (p_ad : Pic) (x1 : Int32) (out : Pic) (hf : f_X3_addYoungest p_ad x1 = some out) : Met l yX3_addYoungest (.code yX3_addYoungest cX3_addYoungest 2 none :: BT) ({ frames := 0, cells := 0, slots := 0, locals := 0 }) (va_Pc [.ref (ad 99), .int x1] (PreW G sz (pO G ad p_ad ++ []))) (Don G (va_A (pO G ad p_ad ++ []) sz) (pO G ad out ++ [])) 0 0 (va_A (pO G ad p_ad ++ []) sz) := by
  refine Met.into (by decide) (Nat.le_of_ble_eq_true rfl) ?_
  intro p e s m below meth c C hsz ls hl hw
  have hl : lv_has ls 2 [(0, .ref (ad 99)), (1, .int x1)] := hl
  clear hsz
  generalize va_A (pO G ad p_ad ++ []) sz = A at hw ⊢
  unfold f_X3_addYoungest at hf
  refine r_aload0 C hl 0 rfl dX3_addYoungest_0 ?_
  refine r_get C hw _ (gx_h pO_o) 11 fl_X3_65 rfl dX3_addYoungest_1 ?_
  refine lv_bipush (v := 30) C.1 C.2.1 dX3_addYoungest_4 (by decide) ?_
  refine lv_icmp_ge (tgt := 29) C.1 C.2.1 dX3_addYoungest_6 (by decide) (fun hc => ?_) (fun hc => ?_)
  · replace hf := ifp hf hc
    exact fin_v C hw (Option.some.inj hf) (fun o => (pO G ad o ++ [])) rfl dX3_addYoungest_29
  · replace hf := ifn hf hc
    refine r_aload0 C hl 0 rfl dX3_addYoungest_9 ?_
    refine r_get C hw _ (gx_h pO_o) 10 fl_X3_47 rfl dX3_addYoungest_10 ?_
    refine r_aload0 C hl 0 rfl dX3_addYoungest_13 ?_
    refine r_get C hw _ (gx_h pO_o) 11 fl_X3_65 rfl dX3_addYoungest_14 ?_
    refine r_iload0 C hl 1 rfl dX3_addYoungest_17 ?_
    obtain ⟨p_ad1, e1, hf⟩ := bx hf
    refine r_iast C hw _ (gx_h pO_g10) e1 (pO G ad p_ad1 ++ []) (fun h => (sx_h pO_g10 (pO_s10 h))) dX3_addYoungest_18 (fun H locs hw => ?_)
    refine r_aload0 C hl 0 rfl dX3_addYoungest_19 ?_
    refine lv_dup C.1 C.2.1 dX3_addYoungest_20 rfl ?_
    refine r_get C hw _ (gx_h pO_o) 11 fl_X3_65 rfl dX3_addYoungest_21 ?_
    refine lv_iconst (v := 1) C.1 C.2.1 dX3_addYoungest_24 (by decide) ?_
    refine lv_iadd C.1 C.2.1 dX3_addYoungest_25 ?_
    obtain ⟨p_ad2, e2, hf⟩ := bx hf
    refine r_put C hw _ (gx_h pO_o) 11 fp_X3_65 rfl rfl (Nat.le_of_ble_eq_true rfl) (pO G ad p_ad2 ++ []) (sx_h pO_o (pO_p11 e2)) dX3_addYoungest_26 (fun H locs hw => ?_)
    exact fin_v C hw (Option.some.inj hf) (fun o => (pO G ad o ++ [])) rfl dX3_addYoungest_29
set_option maxHeartbeats 4000000 in
set_option maxRecDepth 100000 in
theorem c_X3_pagesAtHome (l : Launch) (G : GG) (ad : Nat → Nat) (sz : Nat) (p_ad : Pic) (x1 : Int32) (x2 : Int32) (out : Int32) (hf : f_X3_pagesAtHome p_ad x1 x2 = some out) : Met l yX3_pagesAtHome (.code yX3_pagesAtHome cX3_pagesAtHome 5 (some .int) :: BT) ({ frames := 1, cells := 0, slots := 0, locals := 21 }) (va_Pc [.ref (ad 99), .int x1, .int x2] (PreW G sz (pO G ad p_ad ++ []))) (Ans G out (va_A (pO G ad p_ad ++ []) sz) (pO G ad p_ad ++ [])) 0 0 (va_A (pO G ad p_ad ++ []) sz) := by
  refine Met.into (by decide) (Nat.le_of_ble_eq_true rfl) ?_
  intro p e s m below meth c C hsz ls hl hw
  have hl : lv_has ls 5 [(0, .ref (ad 99)), (1, .int x1), (2, .int x2)] := hl
  clear hsz
  generalize va_A (pO G ad p_ad ++ []) sz = A at hw ⊢
  have hB_5 : ∀ (k5 : Int32 → Int32 → Option (Int32)) (hk5 : ∀ (v3 : Int32) (v4 : Int32), k5 v3 v4 = some out → ∀ (H : Heap) (locs : List Loc), Wd G A s H locs (pO G ad p_ad ++ []) → ∀ ls : Array Slot, lv_has ls 5 [(0, .ref (ad 99)), (1, .int x1), (2, .int x2), (3, .int v3), (4, .int v4)] → W p l e ({ frames := 1, cells := 0, slots := 0, locals := 21 }) s m [.ref (ad 99), .int x1, .int x2].toArray below meth c H locs 0 0 (MQ below (Ans G out A (pO G ad p_ad ++ [])) [.ref (ad 99), .int x1, .int x2].toArray s 0 0 A) (F0 m 5 ls [])), ∀ (v3 : Int32) (v4 : Int32), b_X3_pagesAtHome_5 p_ad x1 x2 k5 v3 v4 = some out → ∀ (H : Heap) (locs : List Loc), Wd G A s H locs (pO G ad p_ad ++ []) → ∀ ls : Array Slot, lv_has ls 5 [(0, .ref (ad 99)), (1, .int x1), (2, .int x2), (3, .int v3), (4, .int v4)] → W p l e ({ frames := 1, cells := 0, slots := 0, locals := 21 }) s m [.ref (ad 99), .int x1, .int x2].toArray below meth c H locs 0 0 (MQ below (Ans G out A (pO G ad p_ad ++ [])) [.ref (ad 99), .int x1, .int x2].toArray s 0 0 A) (F0 m 5 ls []) := by
    intro k5 hk5 v3 v4 hf H locs hw ls hl
    unfold b_X3_pagesAtHome_5 at hf
    refine r_iload C hl 4 rfl dX3_pagesAtHome_5 ?_
    refine lv_bipush (v := 30) C.1 C.2.1 dX3_pagesAtHome_7 (by decide) ?_
    refine lv_icmp_ge (tgt := 47) C.1 C.2.1 dX3_pagesAtHome_9 (by decide) (fun hc => ?_) (fun hc => ?_)
    · replace hf := ifp hf hc
      refine r_iload0 C hl 3 rfl dX3_pagesAtHome_47 ?_
      exact fin_i C hw (Option.some.inj hf) (fun o => o) (fun o => (pO G ad p_ad ++ [])) rfl rfl dX3_pagesAtHome_48
    · replace hf := ifn hf hc
      refine r_aload0 C hl 0 rfl dX3_pagesAtHome_12 ?_
      refine r_get C hw _ (gx_h pO_o) 4 fl_X3_28 rfl dX3_pagesAtHome_13 ?_
      refine r_iload C hl 4 rfl dX3_pagesAtHome_16 ?_
      obtain ⟨v1_, e1, hf⟩ := bx hf
      refine r_iald C hw _ (gx_h pO_g4) e1 dX3_pagesAtHome_18 ?_
      refine lv_iconst (v := 2) C.1 C.2.1 dX3_pagesAtHome_19 (by decide) ?_
      refine lv_icmp_ne (tgt := 41) C.1 C.2.1 dX3_pagesAtHome_20 (by decide) (fun hc => ?_) (fun hc => ?_)
      · replace hf := ifn hf hc
        refine r_iinc C hl 4 (v4 + 1) [(4, .int (v4 + 1)), (0, .ref (ad 99)), (1, .int x1), (2, .int x2), (3, .int v3)] rfl (iinc_e (by decide)) (by decide) rfl dX3_pagesAtHome_41 (fun ls hl => ?_)
        refine lv_goto (tgt := 5) C.1 C.2.1 dX3_pagesAtHome_44 (by decide) ?_
        exact hk5 v3 (v4 + 1) hf _ _ hw _ (lv_sub hl [1, 2, 3, 4, 0] rfl)
      · replace hf := ifp hf hc
        refine r_aload0 C hl 0 rfl dX3_pagesAtHome_23 ?_
        refine r_get C hw _ (gx_h pO_o) 5 fl_X3_32 rfl dX3_pagesAtHome_24 ?_
        refine r_iload C hl 4 rfl dX3_pagesAtHome_27 ?_
        obtain ⟨v2_, e2, hf⟩ := bx hf
        refine r_iald C hw _ (gx_h pO_g5) e2 dX3_pagesAtHome_29 ?_
        refine r_iload0 C hl 2 rfl dX3_pagesAtHome_30 ?_
        obtain ⟨u3, e3, hf⟩ := bx hf
        refine r_callSi (ws' := (pO G ad p_ad ++ [])) (As := [.int v2_, .int x2]) (rest := []) C hw hl.1 kX0_homeOf ml_X3_89 (c_X0_homeOf l G _ v2_ x2 u3 e3) CutX.none ⟨rfl, rfl⟩ ⟨Nat.le_of_ble_eq_true rfl, Nat.le_of_ble_eq_true rfl⟩ rfl ⟨Nat.zero_le _, Nat.zero_le _⟩ rfl (Nat.le_of_ble_eq_true rfl) dX3_pagesAtHome_31 (fun H locs hw => ?_)
        refine r_iload0 C hl 1 rfl dX3_pagesAtHome_34 ?_
        refine lv_icmp_ne (tgt := 41) C.1 C.2.1 dX3_pagesAtHome_35 (by decide) (fun hc => ?_) (fun hc => ?_)
        · replace hf := ifn hf hc
          refine r_iinc C hl 4 (v4 + 1) [(4, .int (v4 + 1)), (0, .ref (ad 99)), (1, .int x1), (2, .int x2), (3, .int v3)] rfl (iinc_e (by decide)) (by decide) rfl dX3_pagesAtHome_41 (fun ls hl => ?_)
          refine lv_goto (tgt := 5) C.1 C.2.1 dX3_pagesAtHome_44 (by decide) ?_
          exact hk5 v3 (v4 + 1) hf _ _ hw _ (lv_sub hl [1, 2, 3, 4, 0] rfl)
        · replace hf := ifp hf hc
          refine r_iinc C hl 3 (v3 + 1) [(3, .int (v3 + 1)), (0, .ref (ad 99)), (1, .int x1), (2, .int x2), (4, .int v4)] rfl (iinc_e (by decide)) (by decide) rfl dX3_pagesAtHome_38 (fun ls hl => ?_)
          refine r_iinc C hl 4 (v4 + 1) [(4, .int (v4 + 1)), (3, .int (v3 + 1)), (0, .ref (ad 99)), (1, .int x1), (2, .int x2)] rfl (iinc_e (by decide)) (by decide) rfl dX3_pagesAtHome_41 (fun ls hl => ?_)
          refine lv_goto (tgt := 5) C.1 C.2.1 dX3_pagesAtHome_44 (by decide) ?_
          exact hk5 (v3 + 1) (v4 + 1) hf _ _ hw _ (lv_sub hl [2, 3, 4, 1, 0] rfl)
  have hL_5 : ∀ n : Nat, ∀ (v3 : Int32) (v4 : Int32), L_X3_pagesAtHome_5 p_ad x1 x2  n v3 v4 = some out → ∀ (H : Heap) (locs : List Loc), Wd G A s H locs (pO G ad p_ad ++ []) → ∀ ls : Array Slot, lv_has ls 5 [(0, .ref (ad 99)), (1, .int x1), (2, .int x2), (3, .int v3), (4, .int v4)] → W p l e ({ frames := 1, cells := 0, slots := 0, locals := 21 }) s m [.ref (ad 99), .int x1, .int x2].toArray below meth c H locs 0 0 (MQ below (Ans G out A (pO G ad p_ad ++ [])) [.ref (ad 99), .int x1, .int x2].toArray s 0 0 A) (F0 m 5 ls []) := by
    intro  n
    induction n with
    | zero => intro v3 v4 hf; cases hf
    | succ n ih => exact hB_5 _ ih
  unfold f_X3_pagesAtHome at hf
  refine lv_iconst (v := 0) C.1 C.2.1 dX3_pagesAtHome_0 (by decide) ?_
  refine r_istore0 C hl [(3, .int 0), (0, .ref (ad 99)), (1, .int x1), (2, .int x2)] (by decide) rfl dX3_pagesAtHome_1 (fun ls hl => ?_)
  refine lv_iconst (v := 0) C.1 C.2.1 dX3_pagesAtHome_2 (by decide) ?_
  refine r_istore C hl [(4, .int 0), (3, .int 0), (0, .ref (ad 99)), (1, .int x1), (2, .int x2)] (by decide) rfl dX3_pagesAtHome_3 (fun ls hl => ?_)
  exact hL_5  FU 0 0 hf _ _ hw _ (lv_sub hl [2, 3, 4, 1, 0] rfl)
set_option maxHeartbeats 4000000 in
set_option maxRecDepth 100000 in
theorem c_X3_isPage (l : Launch) (G : GG)  (sz : Nat)  (x0 : Int32) (out : Int32) (hf : f_X3_isPage x0 = some out) : Met l yX3_isPage (.code yX3_isPage cX3_isPage 1 (some .boolean) :: BT) ({ frames := 0, cells := 0, slots := 0, locals := 0 }) (va_Pc [.int x0] (PreW G sz [])) (Ans G out (va_A [] sz) []) 0 0 (va_A [] sz) := by
  refine Met.into (by decide) (Nat.le_of_ble_eq_true rfl) ?_
  intro p e s m below meth c C hsz ls hl hw
  have hl : lv_has ls 1 [(0, .int x0)] := hl
  clear hsz
  generalize va_A [] sz = A at hw ⊢
  unfold f_X3_isPage at hf
  refine r_iload0 C hl 0 rfl dX3_isPage_0 ?_
  refine lv_if_lt (tgt := 14) C.1 C.2.1 dX3_isPage_1 (by decide) (fun hc => ?_) (fun hc => ?_)
  · replace hf := ifp hf hc
    refine lv_iconst (v := 0) C.1 C.2.1 dX3_isPage_14 (by decide) ?_
    exact fin_z C hw (by decide) (Option.some.inj hf) (fun o => o) (fun o => []) rfl rfl dX3_isPage_15
  · replace hf := ifn hf hc
    refine r_iload0 C hl 0 rfl dX3_isPage_4 ?_
    refine lv_bipush (v := 30) C.1 C.2.1 dX3_isPage_5 (by decide) ?_
    refine lv_icmp_ge (tgt := 14) C.1 C.2.1 dX3_isPage_7 (by decide) (fun hc => ?_) (fun hc => ?_)
    · replace hf := ifp hf hc
      refine lv_iconst (v := 0) C.1 C.2.1 dX3_isPage_14 (by decide) ?_
      exact fin_z C hw (by decide) (Option.some.inj hf) (fun o => o) (fun o => []) rfl rfl dX3_isPage_15
    · replace hf := ifn hf hc
      refine lv_iconst (v := 1) C.1 C.2.1 dX3_isPage_10 (by decide) ?_
      refine lv_goto (tgt := 15) C.1 C.2.1 dX3_isPage_11 (by decide) ?_
      exact fin_z C hw (by decide) (Option.some.inj hf) (fun o => o) (fun o => []) rfl rfl dX3_isPage_15
set_option maxHeartbeats 4000000 in
set_option maxRecDepth 100000 in
theorem c_X3_likeCells (l : Launch) (G : GG) (ad : Nat → Nat) (sz : Nat) (p_ad : Pic) (x1 : Int32) (x2 : Int32) (out : Int32) (hf : f_X3_likeCells p_ad x1 x2 = some out) : Met l yX3_likeCells (.code yX3_likeCells cX3_likeCells 4 (some .boolean) :: BT) ({ frames := 1, cells := 0, slots := 0, locals := 20 }) (va_Pc [.ref (ad 99), .int x1, .int x2] (PreW G sz (pO G ad p_ad ++ []))) (Ans G out (va_A (pO G ad p_ad ++ []) sz) (pO G ad p_ad ++ [])) 0 0 (va_A (pO G ad p_ad ++ []) sz) := by
  refine Met.into (by decide) (Nat.le_of_ble_eq_true rfl) ?_
  intro p e s m below meth c C hsz ls hl hw
  have hl : lv_has ls 4 [(0, .ref (ad 99)), (1, .int x1), (2, .int x2)] := hl
  clear hsz
  generalize va_A (pO G ad p_ad ++ []) sz = A at hw ⊢
  have hB_18 : ∀ (k18 : Int32 → Option (Int32)) (hk18 : ∀ (v3 : Int32), k18 v3 = some out → ∀ (H : Heap) (locs : List Loc), Wd G A s H locs (pO G ad p_ad ++ []) → ∀ ls : Array Slot, lv_has ls 4 [(0, .ref (ad 99)), (1, .int x1), (2, .int x2), (3, .int v3)] → W p l e ({ frames := 1, cells := 0, slots := 0, locals := 20 }) s m [.ref (ad 99), .int x1, .int x2].toArray below meth c H locs 0 0 (MQ below (Ans G out A (pO G ad p_ad ++ [])) [.ref (ad 99), .int x1, .int x2].toArray s 0 0 A) (F0 m 18 ls [])), ∀ (v3 : Int32), b_X3_likeCells_18 p_ad x1 x2 k18 v3 = some out → ∀ (H : Heap) (locs : List Loc), Wd G A s H locs (pO G ad p_ad ++ []) → ∀ ls : Array Slot, lv_has ls 4 [(0, .ref (ad 99)), (1, .int x1), (2, .int x2), (3, .int v3)] → W p l e ({ frames := 1, cells := 0, slots := 0, locals := 20 }) s m [.ref (ad 99), .int x1, .int x2].toArray below meth c H locs 0 0 (MQ below (Ans G out A (pO G ad p_ad ++ [])) [.ref (ad 99), .int x1, .int x2].toArray s 0 0 A) (F0 m 18 ls []) := by
    intro k18 hk18 v3 hf H locs hw ls hl
    unfold b_X3_likeCells_18 at hf
    refine r_iload0 C hl 3 rfl dX3_likeCells_18 ?_
    refine lv_bipush (v := 16) C.1 C.2.1 dX3_likeCells_19 (by decide) ?_
    refine lv_icmp_ge (tgt := 57) C.1 C.2.1 dX3_likeCells_21 (by decide) (fun hc => ?_) (fun hc => ?_)
    · replace hf := ifp hf hc
      refine lv_iconst (v := 1) C.1 C.2.1 dX3_likeCells_57 (by decide) ?_
      exact fin_z C hw (by decide) (Option.some.inj hf) (fun o => o) (fun o => (pO G ad p_ad ++ [])) rfl rfl dX3_likeCells_58
    · replace hf := ifn hf hc
      refine r_aload0 C hl 0 rfl dX3_likeCells_24 ?_
      refine r_get C hw _ (gx_h pO_o) 9 fl_X3_44 rfl dX3_likeCells_25 ?_
      refine r_iload0 C hl 1 rfl dX3_likeCells_28 ?_
      refine lv_bipush (v := 16) C.1 C.2.1 dX3_likeCells_29 (by decide) ?_
      refine lv_imul C.1 C.2.1 dX3_likeCells_31 ?_
      refine r_iload0 C hl 3 rfl dX3_likeCells_32 ?_
      refine lv_iadd C.1 C.2.1 dX3_likeCells_33 ?_
      obtain ⟨v3_, e3, hf⟩ := bx hf
      refine r_iald C hw _ (gx_h pO_g9) e3 dX3_likeCells_34 ?_
      refine r_aload0 C hl 0 rfl dX3_likeCells_35 ?_
      refine r_get C hw _ (gx_h pO_o) 9 fl_X3_44 rfl dX3_likeCells_36 ?_
      refine r_iload0 C hl 2 rfl dX3_likeCells_39 ?_
      refine lv_bipush (v := 16) C.1 C.2.1 dX3_likeCells_40 (by decide) ?_
      refine lv_imul C.1 C.2.1 dX3_likeCells_42 ?_
      refine r_iload0 C hl 3 rfl dX3_likeCells_43 ?_
      refine lv_iadd C.1 C.2.1 dX3_likeCells_44 ?_
      obtain ⟨v4_, e4, hf⟩ := bx hf
      refine r_iald C hw _ (gx_h pO_g9) e4 dX3_likeCells_45 ?_
      refine lv_icmp_eq (tgt := 51) C.1 C.2.1 dX3_likeCells_46 (by decide) (fun hc => ?_) (fun hc => ?_)
      · replace hf := ifp hf hc
        refine r_iinc C hl 3 (v3 + 1) [(3, .int (v3 + 1)), (0, .ref (ad 99)), (1, .int x1), (2, .int x2)] rfl (iinc_e (by decide)) (by decide) rfl dX3_likeCells_51 (fun ls hl => ?_)
        refine lv_goto (tgt := 18) C.1 C.2.1 dX3_likeCells_54 (by decide) ?_
        exact hk18 (v3 + 1) hf _ _ hw _ (lv_sub hl [1, 2, 3, 0] rfl)
      · replace hf := ifn hf hc
        refine lv_iconst (v := 0) C.1 C.2.1 dX3_likeCells_49 (by decide) ?_
        exact fin_z C hw (by decide) (Option.some.inj hf) (fun o => o) (fun o => (pO G ad p_ad ++ [])) rfl rfl dX3_likeCells_50
  have hL_18 : ∀ n : Nat, ∀ (v3 : Int32), L_X3_likeCells_18 p_ad x1 x2  n v3 = some out → ∀ (H : Heap) (locs : List Loc), Wd G A s H locs (pO G ad p_ad ++ []) → ∀ ls : Array Slot, lv_has ls 4 [(0, .ref (ad 99)), (1, .int x1), (2, .int x2), (3, .int v3)] → W p l e ({ frames := 1, cells := 0, slots := 0, locals := 20 }) s m [.ref (ad 99), .int x1, .int x2].toArray below meth c H locs 0 0 (MQ below (Ans G out A (pO G ad p_ad ++ [])) [.ref (ad 99), .int x1, .int x2].toArray s 0 0 A) (F0 m 18 ls []) := by
    intro  n
    induction n with
    | zero => intro v3 hf; cases hf
    | succ n ih => exact hB_18 _ ih
  unfold f_X3_likeCells at hf
  refine r_iload0 C hl 1 rfl dX3_likeCells_0 ?_
  obtain ⟨u1, e1, hf⟩ := bx hf
  refine r_callSi (ws' := (pO G ad p_ad ++ [])) (As := [.int x1]) (rest := []) C hw hl.1 kX3_isPage ml_X3_81 (c_X3_isPage l G _ x1 u1 e1) CutX.none ⟨rfl, rfl⟩ ⟨Nat.le_of_ble_eq_true rfl, Nat.le_of_ble_eq_true rfl⟩ rfl ⟨Nat.zero_le _, Nat.zero_le _⟩ rfl (Nat.le_of_ble_eq_true rfl) dX3_likeCells_1 (fun H locs hw => ?_)
  refine lv_if_eq (tgt := 14) C.1 C.2.1 dX3_likeCells_4 (by decide) (fun hc => ?_) (fun hc => ?_)
  · replace hf := ifp hf hc
    refine lv_iconst (v := 0) C.1 C.2.1 dX3_likeCells_14 (by decide) ?_
    exact fin_z C hw (by decide) (Option.some.inj hf) (fun o => o) (fun o => (pO G ad p_ad ++ [])) rfl rfl dX3_likeCells_15
  · replace hf := ifn hf hc
    refine r_iload0 C hl 2 rfl dX3_likeCells_7 ?_
    obtain ⟨u2, e2, hf⟩ := bx hf
    refine r_callSi (ws' := (pO G ad p_ad ++ [])) (As := [.int x2]) (rest := []) C hw hl.1 kX3_isPage ml_X3_81 (c_X3_isPage l G _ x2 u2 e2) CutX.none ⟨rfl, rfl⟩ ⟨Nat.le_of_ble_eq_true rfl, Nat.le_of_ble_eq_true rfl⟩ rfl ⟨Nat.zero_le _, Nat.zero_le _⟩ rfl (Nat.le_of_ble_eq_true rfl) dX3_likeCells_8 (fun H locs hw => ?_)
    refine lv_if_ne (tgt := 16) C.1 C.2.1 dX3_likeCells_11 (by decide) (fun hc => ?_) (fun hc => ?_)
    · replace hf := ifn hf hc
      refine lv_iconst (v := 0) C.1 C.2.1 dX3_likeCells_16 (by decide) ?_
      refine r_istore0 C hl [(3, .int 0), (0, .ref (ad 99)), (1, .int x1), (2, .int x2)] (by decide) rfl dX3_likeCells_17 (fun ls hl => ?_)
      exact hL_18  FU 0 hf _ _ hw _ (lv_sub hl [1, 2, 3, 0] rfl)
    · replace hf := ifp hf hc
      refine lv_iconst (v := 0) C.1 C.2.1 dX3_likeCells_14 (by decide) ?_
      exact fin_z C hw (by decide) (Option.some.inj hf) (fun o => o) (fun o => (pO G ad p_ad ++ [])) rfl rfl dX3_likeCells_15
set_option maxHeartbeats 4000000 in
set_option maxRecDepth 100000 in
theorem c_X3_coldestLoose (l : Launch) (G : GG) (ad : Nat → Nat) (sz : Nat) (p_ad : Pic)  (out : Int32) (hf : f_X3_coldestLoose p_ad = some out) : Met l yX3_coldestLoose (.code yX3_coldestLoose cX3_coldestLoose 3 (some .int) :: BT) ({ frames := 1, cells := 0, slots := 0, locals := 20 }) (va_Pc [.ref (ad 99)] (PreW G sz (pO G ad p_ad ++ []))) (Ans G out (va_A (pO G ad p_ad ++ []) sz) (pO G ad p_ad ++ [])) 0 0 (va_A (pO G ad p_ad ++ []) sz) := by
  refine Met.into (by decide) (Nat.le_of_ble_eq_true rfl) ?_
  intro p e s m below meth c C hsz ls hl hw
  have hl : lv_has ls 3 [(0, .ref (ad 99))] := hl
  clear hsz
  generalize va_A (pO G ad p_ad ++ []) sz = A at hw ⊢
  have hB_2 : ∀ (k2 : Int32 → Option (Int32)) (hk2 : ∀ (v1 : Int32), k2 v1 = some out → ∀ (H : Heap) (locs : List Loc), Wd G A s H locs (pO G ad p_ad ++ []) → ∀ ls : Array Slot, lv_has ls 3 [(0, .ref (ad 99)), (1, .int v1)] → W p l e ({ frames := 1, cells := 0, slots := 0, locals := 20 }) s m [.ref (ad 99)].toArray below meth c H locs 0 0 (MQ below (Ans G out A (pO G ad p_ad ++ [])) [.ref (ad 99)].toArray s 0 0 A) (F0 m 2 ls [])), ∀ (v1 : Int32), b_X3_coldestLoose_2 p_ad k2 v1 = some out → ∀ (H : Heap) (locs : List Loc), Wd G A s H locs (pO G ad p_ad ++ []) → ∀ ls : Array Slot, lv_has ls 3 [(0, .ref (ad 99)), (1, .int v1)] → W p l e ({ frames := 1, cells := 0, slots := 0, locals := 20 }) s m [.ref (ad 99)].toArray below meth c H locs 0 0 (MQ below (Ans G out A (pO G ad p_ad ++ [])) [.ref (ad 99)].toArray s 0 0 A) (F0 m 2 ls []) := by
    intro k2 hk2 v1 hf H locs hw ls hl
    unfold b_X3_coldestLoose_2 at hf
    refine r_iload0 C hl 1 rfl dX3_coldestLoose_2 ?_
    refine r_aload0 C hl 0 rfl dX3_coldestLoose_3 ?_
    refine r_get C hw _ (gx_h pO_o) 11 fl_X3_65 rfl dX3_coldestLoose_4 ?_
    refine lv_icmp_ge (tgt := 47) C.1 C.2.1 dX3_coldestLoose_7 (by decide) (fun hc => ?_) (fun hc => ?_)
    · replace hf := ifp hf hc
      refine lv_iconst (v := (-1)) C.1 C.2.1 dX3_coldestLoose_47 (by decide) ?_
      exact fin_i C hw (Option.some.inj hf) (fun o => o) (fun o => (pO G ad p_ad ++ [])) rfl rfl dX3_coldestLoose_48
    · replace hf := ifn hf hc
      refine r_iload0 C hl 1 rfl dX3_coldestLoose_10 ?_
      refine lv_bipush (v := 30) C.1 C.2.1 dX3_coldestLoose_11 (by decide) ?_
      refine lv_icmp_ge (tgt := 47) C.1 C.2.1 dX3_coldestLoose_13 (by decide) (fun hc => ?_) (fun hc => ?_)
      · replace hf := ifp hf hc
        refine lv_iconst (v := (-1)) C.1 C.2.1 dX3_coldestLoose_47 (by decide) ?_
        exact fin_i C hw (Option.some.inj hf) (fun o => o) (fun o => (pO G ad p_ad ++ [])) rfl rfl dX3_coldestLoose_48
      · replace hf := ifn hf hc
        refine r_aload0 C hl 0 rfl dX3_coldestLoose_16 ?_
        refine r_get C hw _ (gx_h pO_o) 10 fl_X3_47 rfl dX3_coldestLoose_17 ?_
        refine r_iload0 C hl 1 rfl dX3_coldestLoose_20 ?_
        obtain ⟨v1_, e1, hf⟩ := bx hf
        refine r_iald C hw _ (gx_h pO_g10) e1 dX3_coldestLoose_21 ?_
        refine r_istore0 C hl [(2, .int v1_), (0, .ref (ad 99)), (1, .int v1)] (by decide) rfl dX3_coldestLoose_22 (fun ls hl => ?_)
        refine r_iload0 C hl 0 rfl dX3_coldestLoose_23 ?_
        obtain ⟨u2, e2, hf⟩ := bx hf
        refine r_callSi (ws' := (pO G ad p_ad ++ [])) (As := [.int v1_]) (rest := []) C hw hl.1 kX3_isPage ml_X3_81 (c_X3_isPage l G _ v1_ u2 e2) CutX.none ⟨rfl, rfl⟩ ⟨Nat.le_of_ble_eq_true rfl, Nat.le_of_ble_eq_true rfl⟩ rfl ⟨Nat.zero_le _, Nat.zero_le _⟩ rfl (Nat.le_of_ble_eq_true rfl) dX3_coldestLoose_24 (fun H locs hw => ?_)
        refine lv_if_eq (tgt := 41) C.1 C.2.1 dX3_coldestLoose_27 (by decide) (fun hc => ?_) (fun hc => ?_)
        · replace hf := ifp hf hc
          refine r_iinc C hl 2 (v1 + 1) [(1, .int (v1 + 1)), (2, .int v1_), (0, .ref (ad 99))] rfl (iinc_e (by decide)) (by decide) rfl dX3_coldestLoose_41 (fun ls hl => ?_)
          refine lv_goto (tgt := 2) C.1 C.2.1 dX3_coldestLoose_44 (by decide) ?_
          exact hk2 (v1 + 1) hf _ _ hw _ (lv_sub hl [2, 0] rfl)
        · replace hf := ifn hf hc
          refine r_aload0 C hl 1 rfl dX3_coldestLoose_30 ?_
          refine r_get C hw _ (gx_h pO_o) 8 fl_X3_41 rfl dX3_coldestLoose_31 ?_
          refine r_iload0 C hl 0 rfl dX3_coldestLoose_34 ?_
          obtain ⟨v3_, e3, hf⟩ := bx hf
          refine r_iald C hw _ (gx_h pO_g8) e3 dX3_coldestLoose_35 ?_
          refine lv_if_ne (tgt := 41) C.1 C.2.1 dX3_coldestLoose_36 (by decide) (fun hc => ?_) (fun hc => ?_)
          · replace hf := ifn hf hc
            refine r_iinc C hl 2 (v1 + 1) [(1, .int (v1 + 1)), (2, .int v1_), (0, .ref (ad 99))] rfl (iinc_e (by decide)) (by decide) rfl dX3_coldestLoose_41 (fun ls hl => ?_)
            refine lv_goto (tgt := 2) C.1 C.2.1 dX3_coldestLoose_44 (by decide) ?_
            exact hk2 (v1 + 1) hf _ _ hw _ (lv_sub hl [2, 0] rfl)
          · replace hf := ifp hf hc
            refine r_iload0 C hl 0 rfl dX3_coldestLoose_39 ?_
            exact fin_i C hw (Option.some.inj hf) (fun o => o) (fun o => (pO G ad p_ad ++ [])) rfl rfl dX3_coldestLoose_40
  have hL_2 : ∀ n : Nat, ∀ (v1 : Int32), L_X3_coldestLoose_2 p_ad  n v1 = some out → ∀ (H : Heap) (locs : List Loc), Wd G A s H locs (pO G ad p_ad ++ []) → ∀ ls : Array Slot, lv_has ls 3 [(0, .ref (ad 99)), (1, .int v1)] → W p l e ({ frames := 1, cells := 0, slots := 0, locals := 20 }) s m [.ref (ad 99)].toArray below meth c H locs 0 0 (MQ below (Ans G out A (pO G ad p_ad ++ [])) [.ref (ad 99)].toArray s 0 0 A) (F0 m 2 ls []) := by
    intro  n
    induction n with
    | zero => intro v1 hf; cases hf
    | succ n ih => exact hB_2 _ ih
  unfold f_X3_coldestLoose at hf
  refine lv_iconst (v := 0) C.1 C.2.1 dX3_coldestLoose_0 (by decide) ?_
  refine r_istore0 C hl [(1, .int 0), (0, .ref (ad 99))] (by decide) rfl dX3_coldestLoose_1 (fun ls hl => ?_)
  exact hL_2  FU 0 hf _ _ hw _ (lv_sub hl [1, 0] rfl)
