set_option maxHeartbeats 4000000 in
set_option maxRecDepth 100000 in
theorem c_X3_begin (l : Launch) (G : GG) (ad : Nat → Nat) (sz : Nat) (p_ad : Pic) (z_ad : Pic) (x1 x2 x3 : Int32) (out : Pic × Pic) (hf : f_X3_begin p_ad z_ad x1 x2 x3 = some out) : Met l yX3_begin (.code yX3_begin cX3_begin 4 none :: BT) ({ frames := 2, cells := 0, slots := 0, locals := 43 }) (va_Pc [.ref (ad 99), .int x1, .int x2, .int x3] (PreW G sz (pO G ad p_ad ++ (zO G ad z_ad ++ [])))) (Don G (va_A (pO G ad p_ad ++ (zO G ad z_ad ++ [])) sz) (pO G ad out.1 ++ (zO G ad out.2 ++ []))) 0 0 (va_A (pO G ad p_ad ++ (zO G ad z_ad ++ [])) sz) := by
  refine Met.into (by decide) (Nat.le_of_ble_eq_true rfl) ?_
  intro p e s m below meth c C hsz ls hl hw
  have hl : lv_has ls 4 [(0, .ref (ad 99)), (1, .int x1), (2, .int x2), (3, .int x3)] := hl
  clear hsz
  generalize va_A (pO G ad p_ad ++ (zO G ad z_ad ++ [])) sz = A at hw ⊢
  unfold f_X3_begin at hf
  refine r_aload0 C hl 0 rfl dX3_begin_0 ?_
  refine r_iload0 C hl 1 rfl dX3_begin_1 ?_
  obtain ⟨p_ad1, e1, hf⟩ := bx hf
  refine r_put C hw _ (gx_h pO_o) 0 fp_X3_9 rfl rfl (Nat.le_of_ble_eq_true rfl) (pO G ad p_ad1 ++ (zO G ad z_ad ++ [])) (sx_h pO_o (pO_p0 e1)) dX3_begin_2 (fun H locs hw => ?_)
  refine r_aload0 C hl 0 rfl dX3_begin_5 ?_
  refine r_iload0 C hl 2 rfl dX3_begin_6 ?_
  obtain ⟨p_ad2, e2, hf⟩ := bx hf
  refine r_put C hw _ (gx_h pO_o) 1 fp_X3_15 rfl rfl (Nat.le_of_ble_eq_true rfl) (pO G ad p_ad2 ++ (zO G ad z_ad ++ [])) (sx_h pO_o (pO_p1 e2)) dX3_begin_7 (fun H locs hw => ?_)
  refine r_aload0 C hl 0 rfl dX3_begin_10 ?_
  refine r_iload0 C hl 3 rfl dX3_begin_11 ?_
  obtain ⟨p_ad3, e3, hf⟩ := bx hf
  refine r_put C hw _ (gx_h pO_o) 2 fp_X3_18 rfl rfl (Nat.le_of_ble_eq_true rfl) (pO G ad p_ad3 ++ (zO G ad z_ad ++ [])) (sx_h pO_o (pO_p2 e3)) dX3_begin_12 (fun H locs hw => ?_)
  refine r_aload0 C hl 0 rfl dX3_begin_15 ?_
  refine r_get C hw _ (gx_h pO_o) 3 fl_X3_24 rfl dX3_begin_16 ?_
  obtain ⟨u4, e4, hf⟩ := bx hf
  refine r_callVv (ws' := (pO G ad p_ad3 ++ (zO G ad u4 ++ []))) (As := []) (rest := []) C hw hl.1 kX7_clear ml_X3_56 (c_X7_clear l G ad _ z_ad u4 e4) (CutX.skip (CutX.take zO_f CutX.none)) _ (gx_t (gx_h zO_o)) rfl ⟨rfl, rfl⟩ ⟨Nat.le_of_ble_eq_true rfl, Nat.le_of_ble_eq_true rfl⟩ rfl ⟨Nat.zero_le _, Nat.zero_le _⟩ rfl (Nat.le_of_ble_eq_true rfl) dX3_begin_19 (fun H locs hw => ?_)
  refine r_aload0 C hl 0 rfl dX3_begin_22 ?_
  refine r_get C hw _ (gx_h pO_o) 4 fl_X3_28 rfl dX3_begin_23 ?_
  refine lv_iconst (v := 0) C.1 C.2.1 dX3_begin_26 (by decide) ?_
  obtain ⟨p_ad5, e5, hf⟩ := bx hf
  refine r_fill C hw hl.1 ml_X3_59 _ (gx_h pO_g4) (by decide) (pO G ad p_ad5 ++ (zO G ad u4 ++ [])) (sx_h pO_g4 (pO_s4 (Option.some.inj e5).symm)) (Nat.le_of_ble_eq_true rfl) (Nat.le_of_ble_eq_true rfl) ⟨Nat.zero_le _, Nat.zero_le _⟩ (Nat.le_of_ble_eq_true rfl) dX3_begin_27 (fun H locs hw => ?_)
  refine r_aload0 C hl 0 rfl dX3_begin_30 ?_
  refine r_get C hw _ (gx_h pO_o) 8 fl_X3_41 rfl dX3_begin_31 ?_
  refine lv_iconst (v := 0) C.1 C.2.1 dX3_begin_34 (by decide) ?_
  obtain ⟨p_ad6, e6, hf⟩ := bx hf
  refine r_fill C hw hl.1 ml_X3_59 _ (gx_h pO_g8) (by decide) (pO G ad p_ad6 ++ (zO G ad u4 ++ [])) (sx_h pO_g8 (pO_s8 (Option.some.inj e6).symm)) (Nat.le_of_ble_eq_true rfl) (Nat.le_of_ble_eq_true rfl) ⟨Nat.zero_le _, Nat.zero_le _⟩ (Nat.le_of_ble_eq_true rfl) dX3_begin_35 (fun H locs hw => ?_)
  refine r_aload0 C hl 0 rfl dX3_begin_38 ?_
  refine lv_iconst (v := 0) C.1 C.2.1 dX3_begin_39 (by decide) ?_
  obtain ⟨p_ad7, e7, hf⟩ := bx hf
  refine r_put C hw _ (gx_h pO_o) 11 fp_X3_65 rfl rfl (Nat.le_of_ble_eq_true rfl) (pO G ad p_ad7 ++ (zO G ad u4 ++ [])) (sx_h pO_o (pO_p11 e7)) dX3_begin_40 (fun H locs hw => ?_)
  refine r_aload0 C hl 0 rfl dX3_begin_43 ?_
  refine r_get C hw _ (gx_h pO_o) 12 fl_X3_50 rfl dX3_begin_44 ?_
  refine lv_iconst (v := 0) C.1 C.2.1 dX3_begin_47 (by decide) ?_
  obtain ⟨p_ad8, e8, hf⟩ := bx hf
  refine r_fill C hw hl.1 ml_X3_59 _ (gx_h pO_g12) (by decide) (pO G ad p_ad8 ++ (zO G ad u4 ++ [])) (sx_h pO_g12 (pO_s12 (Option.some.inj e8).symm)) (Nat.le_of_ble_eq_true rfl) (Nat.le_of_ble_eq_true rfl) ⟨Nat.zero_le _, Nat.zero_le _⟩ (Nat.le_of_ble_eq_true rfl) dX3_begin_48 (fun H locs hw => ?_)
  refine r_aload0 C hl 0 rfl dX3_begin_51 ?_
  refine lv_iconst (v := 0) C.1 C.2.1 dX3_begin_52 (by decide) ?_
  obtain ⟨p_ad9, e9, hf⟩ := bx hf
  refine r_put C hw _ (gx_h pO_o) 14 fp_X3_68 rfl rfl (Nat.le_of_ble_eq_true rfl) (pO G ad p_ad9 ++ (zO G ad u4 ++ [])) (sx_h pO_o (pO_p14 e9)) dX3_begin_53 (fun H locs hw => ?_)
  exact fin_v C hw (Option.some.inj hf) (fun o => (pO G ad o.1 ++ (zO G ad o.2 ++ []))) rfl dX3_begin_56
set_option maxHeartbeats 4000000 in
set_option maxRecDepth 100000 in
theorem c_X3_copyFrom (l : Launch) (G : GG) (ad : Nat → Nat) (ao : Nat → Nat) (sz : Nat) (p_ad : Pic) (p_ao : Pic) (z_ad : Pic) (z_ao : Pic)  (out : Pic × Pic) (hf : f_X3_copyFrom p_ad p_ao z_ad z_ao = some out) : Met l yX3_copyFrom (.code yX3_copyFrom cX3_copyFrom 2 none :: BT) ({ frames := 2, cells := 0, slots := 0, locals := 47 }) (va_Pc [.ref (ad 99), .ref (ao 99)] (PreW G sz (pO G ad p_ad ++ (pO G ao p_ao ++ (zO G ad z_ad ++ (zO G ao z_ao ++ [])))))) (Don G (va_A (pO G ad p_ad ++ (pO G ao p_ao ++ (zO G ad z_ad ++ (zO G ao z_ao ++ [])))) sz) (pO G ad out.1 ++ (pO G ao p_ao ++ (zO G ad out.2 ++ (zO G ao z_ao ++ []))))) 0 0 (va_A (pO G ad p_ad ++ (pO G ao p_ao ++ (zO G ad z_ad ++ (zO G ao z_ao ++ [])))) sz) := by
  refine Met.into (by decide) (Nat.le_of_ble_eq_true rfl) ?_
  intro p e s m below meth c C hsz ls hl hw
  have hl : lv_has ls 2 [(0, .ref (ad 99)), (1, .ref (ao 99))] := hl
  clear hsz
  generalize va_A (pO G ad p_ad ++ (pO G ao p_ao ++ (zO G ad z_ad ++ (zO G ao z_ao ++ [])))) sz = A at hw ⊢
  unfold f_X3_copyFrom at hf
  refine r_aload0 C hl 0 rfl dX3_copyFrom_0 ?_
  refine r_aload0 C hl 1 rfl dX3_copyFrom_1 ?_
  refine r_get C hw _ (gx_t (gx_h pO_o)) 0 fl_X3_9 rfl dX3_copyFrom_2 ?_
  obtain ⟨p_ad1, e1, hf⟩ := bx hf
  refine r_put C hw _ (gx_h pO_o) 0 fp_X3_9 rfl rfl (Nat.le_of_ble_eq_true rfl) (pO G ad p_ad1 ++ (pO G ao p_ao ++ (zO G ad z_ad ++ (zO G ao z_ao ++ [])))) (sx_h pO_o (pO_p0 e1)) dX3_copyFrom_5 (fun H locs hw => ?_)
  refine r_aload0 C hl 0 rfl dX3_copyFrom_8 ?_
  refine r_aload0 C hl 1 rfl dX3_copyFrom_9 ?_
  refine r_get C hw _ (gx_t (gx_h pO_o)) 1 fl_X3_15 rfl dX3_copyFrom_10 ?_
  obtain ⟨p_ad2, e2, hf⟩ := bx hf
  refine r_put C hw _ (gx_h pO_o) 1 fp_X3_15 rfl rfl (Nat.le_of_ble_eq_true rfl) (pO G ad p_ad2 ++ (pO G ao p_ao ++ (zO G ad z_ad ++ (zO G ao z_ao ++ [])))) (sx_h pO_o (pO_p1 e2)) dX3_copyFrom_13 (fun H locs hw => ?_)
  refine r_aload0 C hl 0 rfl dX3_copyFrom_16 ?_
  refine r_aload0 C hl 1 rfl dX3_copyFrom_17 ?_
  refine r_get C hw _ (gx_t (gx_h pO_o)) 2 fl_X3_18 rfl dX3_copyFrom_18 ?_
  obtain ⟨p_ad3, e3, hf⟩ := bx hf
  refine r_put C hw _ (gx_h pO_o) 2 fp_X3_18 rfl rfl (Nat.le_of_ble_eq_true rfl) (pO G ad p_ad3 ++ (pO G ao p_ao ++ (zO G ad z_ad ++ (zO G ao z_ao ++ [])))) (sx_h pO_o (pO_p2 e3)) dX3_copyFrom_21 (fun H locs hw => ?_)
  refine r_aload0 C hl 0 rfl dX3_copyFrom_24 ?_
  refine r_get C hw _ (gx_h pO_o) 3 fl_X3_24 rfl dX3_copyFrom_25 ?_
  refine r_aload0 C hl 1 rfl dX3_copyFrom_28 ?_
  refine r_get C hw _ (gx_t (gx_h pO_o)) 3 fl_X3_24 rfl dX3_copyFrom_29 ?_
  obtain ⟨u4, e4, hf⟩ := bx hf
  refine r_callVv (ws' := (pO G ad p_ad3 ++ (pO G ao p_ao ++ (zO G ad u4 ++ (zO G ao z_ao ++ []))))) (As := [.ref (ao 199)]) (rest := []) C hw hl.1 kX7_copyFrom ml_X3_71 (c_X7_copyFrom l G ad ao _ z_ad z_ao u4 e4) (CutX.skip (CutX.skip (CutX.take zO_f (CutX.take zO_f CutX.none)))) _ (gx_t (gx_t (gx_h zO_o))) rfl ⟨rfl, rfl⟩ ⟨Nat.le_of_ble_eq_true rfl, Nat.le_of_ble_eq_true rfl⟩ rfl ⟨Nat.zero_le _, Nat.zero_le _⟩ rfl (Nat.le_of_ble_eq_true rfl) dX3_copyFrom_32 (fun H locs hw => ?_)
  refine r_aload0 C hl 1 rfl dX3_copyFrom_35 ?_
  refine r_get C hw _ (gx_t (gx_h pO_o)) 4 fl_X3_28 rfl dX3_copyFrom_36 ?_
  refine lv_iconst (v := 0) C.1 C.2.1 dX3_copyFrom_39 (by decide) ?_
  refine r_aload0 C hl 0 rfl dX3_copyFrom_40 ?_
  refine r_get C hw _ (gx_h pO_o) 4 fl_X3_28 rfl dX3_copyFrom_41 ?_
  refine lv_iconst (v := 0) C.1 C.2.1 dX3_copyFrom_44 (by decide) ?_
  refine lv_bipush (v := 30) C.1 C.2.1 dX3_copyFrom_45 (by decide) ?_
  obtain ⟨p_ad5, e5, hf⟩ := bx hf
  refine r_copy C hw hl.1 acl_X3_75 _ _ (gx_t (gx_h pO_g4)) (gx_h pO_g4) e5 (pO G ad p_ad5 ++ (pO G ao p_ao ++ (zO G ad u4 ++ (zO G ao z_ao ++ [])))) (fun h => (sx_h pO_g4 (pO_s4 h))) (Nat.le_of_ble_eq_true rfl) (Nat.le_of_ble_eq_true rfl) dX3_copyFrom_47 (fun H locs hw => ?_)
  refine r_aload0 C hl 1 rfl dX3_copyFrom_50 ?_
  refine r_get C hw _ (gx_t (gx_h pO_o)) 5 fl_X3_32 rfl dX3_copyFrom_51 ?_
  refine lv_iconst (v := 0) C.1 C.2.1 dX3_copyFrom_54 (by decide) ?_
  refine r_aload0 C hl 0 rfl dX3_copyFrom_55 ?_
  refine r_get C hw _ (gx_h pO_o) 5 fl_X3_32 rfl dX3_copyFrom_56 ?_
  refine lv_iconst (v := 0) C.1 C.2.1 dX3_copyFrom_59 (by decide) ?_
  refine lv_bipush (v := 30) C.1 C.2.1 dX3_copyFrom_60 (by decide) ?_
  obtain ⟨p_ad6, e6, hf⟩ := bx hf
  refine r_copy C hw hl.1 acl_X3_75 _ _ (gx_t (gx_h pO_g5)) (gx_h pO_g5) e6 (pO G ad p_ad6 ++ (pO G ao p_ao ++ (zO G ad u4 ++ (zO G ao z_ao ++ [])))) (fun h => (sx_h pO_g5 (pO_s5 h))) (Nat.le_of_ble_eq_true rfl) (Nat.le_of_ble_eq_true rfl) dX3_copyFrom_62 (fun H locs hw => ?_)
  refine r_aload0 C hl 1 rfl dX3_copyFrom_65 ?_
  refine r_get C hw _ (gx_t (gx_h pO_o)) 6 fl_X3_35 rfl dX3_copyFrom_66 ?_
  refine lv_iconst (v := 0) C.1 C.2.1 dX3_copyFrom_69 (by decide) ?_
  refine r_aload0 C hl 0 rfl dX3_copyFrom_70 ?_
  refine r_get C hw _ (gx_h pO_o) 6 fl_X3_35 rfl dX3_copyFrom_71 ?_
  refine lv_iconst (v := 0) C.1 C.2.1 dX3_copyFrom_74 (by decide) ?_
  refine lv_bipush (v := 30) C.1 C.2.1 dX3_copyFrom_75 (by decide) ?_
  obtain ⟨p_ad7, e7, hf⟩ := bx hf
  refine r_copy C hw hl.1 acl_X3_75 _ _ (gx_t (gx_h pO_g6)) (gx_h pO_g6) e7 (pO G ad p_ad7 ++ (pO G ao p_ao ++ (zO G ad u4 ++ (zO G ao z_ao ++ [])))) (fun h => (sx_h pO_g6 (pO_s6 h))) (Nat.le_of_ble_eq_true rfl) (Nat.le_of_ble_eq_true rfl) dX3_copyFrom_77 (fun H locs hw => ?_)
  refine r_aload0 C hl 1 rfl dX3_copyFrom_80 ?_
  refine r_get C hw _ (gx_t (gx_h pO_o)) 7 fl_X3_38 rfl dX3_copyFrom_81 ?_
  refine lv_iconst (v := 0) C.1 C.2.1 dX3_copyFrom_84 (by decide) ?_
  refine r_aload0 C hl 0 rfl dX3_copyFrom_85 ?_
  refine r_get C hw _ (gx_h pO_o) 7 fl_X3_38 rfl dX3_copyFrom_86 ?_
  refine lv_iconst (v := 0) C.1 C.2.1 dX3_copyFrom_89 (by decide) ?_
  refine lv_bipush (v := 30) C.1 C.2.1 dX3_copyFrom_90 (by decide) ?_
  obtain ⟨p_ad8, e8, hf⟩ := bx hf
  refine r_copy C hw hl.1 acl_X3_75 _ _ (gx_t (gx_h pO_g7)) (gx_h pO_g7) e8 (pO G ad p_ad8 ++ (pO G ao p_ao ++ (zO G ad u4 ++ (zO G ao z_ao ++ [])))) (fun h => (sx_h pO_g7 (pO_s7 h))) (Nat.le_of_ble_eq_true rfl) (Nat.le_of_ble_eq_true rfl) dX3_copyFrom_92 (fun H locs hw => ?_)
  refine r_aload0 C hl 1 rfl dX3_copyFrom_95 ?_
  refine r_get C hw _ (gx_t (gx_h pO_o)) 8 fl_X3_41 rfl dX3_copyFrom_96 ?_
  refine lv_iconst (v := 0) C.1 C.2.1 dX3_copyFrom_99 (by decide) ?_
  refine r_aload0 C hl 0 rfl dX3_copyFrom_100 ?_
  refine r_get C hw _ (gx_h pO_o) 8 fl_X3_41 rfl dX3_copyFrom_101 ?_
  refine lv_iconst (v := 0) C.1 C.2.1 dX3_copyFrom_104 (by decide) ?_
  refine lv_bipush (v := 30) C.1 C.2.1 dX3_copyFrom_105 (by decide) ?_
  obtain ⟨p_ad9, e9, hf⟩ := bx hf
  refine r_copy C hw hl.1 acl_X3_75 _ _ (gx_t (gx_h pO_g8)) (gx_h pO_g8) e9 (pO G ad p_ad9 ++ (pO G ao p_ao ++ (zO G ad u4 ++ (zO G ao z_ao ++ [])))) (fun h => (sx_h pO_g8 (pO_s8 h))) (Nat.le_of_ble_eq_true rfl) (Nat.le_of_ble_eq_true rfl) dX3_copyFrom_107 (fun H locs hw => ?_)
  refine r_aload0 C hl 1 rfl dX3_copyFrom_110 ?_
  refine r_get C hw _ (gx_t (gx_h pO_o)) 9 fl_X3_44 rfl dX3_copyFrom_111 ?_
  refine lv_iconst (v := 0) C.1 C.2.1 dX3_copyFrom_114 (by decide) ?_
  refine r_aload0 C hl 0 rfl dX3_copyFrom_115 ?_
  refine r_get C hw _ (gx_h pO_o) 9 fl_X3_44 rfl dX3_copyFrom_116 ?_
  refine lv_iconst (v := 0) C.1 C.2.1 dX3_copyFrom_119 (by decide) ?_
  refine lv_sipush (v := 480) C.1 C.2.1 dX3_copyFrom_120 (by decide) ?_
  obtain ⟨p_ad10, e10, hf⟩ := bx hf
  refine r_copy C hw hl.1 acl_X3_75 _ _ (gx_t (gx_h pO_g9)) (gx_h pO_g9) e10 (pO G ad p_ad10 ++ (pO G ao p_ao ++ (zO G ad u4 ++ (zO G ao z_ao ++ [])))) (fun h => (sx_h pO_g9 (pO_s9 h))) (Nat.le_of_ble_eq_true rfl) (Nat.le_of_ble_eq_true rfl) dX3_copyFrom_123 (fun H locs hw => ?_)
  refine r_aload0 C hl 1 rfl dX3_copyFrom_126 ?_
  refine r_get C hw _ (gx_t (gx_h pO_o)) 10 fl_X3_47 rfl dX3_copyFrom_127 ?_
  refine lv_iconst (v := 0) C.1 C.2.1 dX3_copyFrom_130 (by decide) ?_
  refine r_aload0 C hl 0 rfl dX3_copyFrom_131 ?_
  refine r_get C hw _ (gx_h pO_o) 10 fl_X3_47 rfl dX3_copyFrom_132 ?_
  refine lv_iconst (v := 0) C.1 C.2.1 dX3_copyFrom_135 (by decide) ?_
  refine lv_bipush (v := 30) C.1 C.2.1 dX3_copyFrom_136 (by decide) ?_
  obtain ⟨p_ad11, e11, hf⟩ := bx hf
  refine r_copy C hw hl.1 acl_X3_75 _ _ (gx_t (gx_h pO_g10)) (gx_h pO_g10) e11 (pO G ad p_ad11 ++ (pO G ao p_ao ++ (zO G ad u4 ++ (zO G ao z_ao ++ [])))) (fun h => (sx_h pO_g10 (pO_s10 h))) (Nat.le_of_ble_eq_true rfl) (Nat.le_of_ble_eq_true rfl) dX3_copyFrom_138 (fun H locs hw => ?_)
  refine r_aload0 C hl 0 rfl dX3_copyFrom_141 ?_
  refine r_aload0 C hl 1 rfl dX3_copyFrom_142 ?_
  refine r_get C hw _ (gx_t (gx_h pO_o)) 11 fl_X3_65 rfl dX3_copyFrom_143 ?_
  obtain ⟨p_ad12, e12, hf⟩ := bx hf
  refine r_put C hw _ (gx_h pO_o) 11 fp_X3_65 rfl rfl (Nat.le_of_ble_eq_true rfl) (pO G ad p_ad12 ++ (pO G ao p_ao ++ (zO G ad u4 ++ (zO G ao z_ao ++ [])))) (sx_h pO_o (pO_p11 e12)) dX3_copyFrom_146 (fun H locs hw => ?_)
  refine r_aload0 C hl 1 rfl dX3_copyFrom_149 ?_
  refine r_get C hw _ (gx_t (gx_h pO_o)) 12 fl_X3_50 rfl dX3_copyFrom_150 ?_
  refine lv_iconst (v := 0) C.1 C.2.1 dX3_copyFrom_153 (by decide) ?_
  refine r_aload0 C hl 0 rfl dX3_copyFrom_154 ?_
  refine r_get C hw _ (gx_h pO_o) 12 fl_X3_50 rfl dX3_copyFrom_155 ?_
  refine lv_iconst (v := 0) C.1 C.2.1 dX3_copyFrom_158 (by decide) ?_
  refine lv_iconst (v := 4) C.1 C.2.1 dX3_copyFrom_159 (by decide) ?_
  obtain ⟨p_ad13, e13, hf⟩ := bx hf
  refine r_copy C hw hl.1 acl_X3_75 _ _ (gx_t (gx_h pO_g12)) (gx_h pO_g12) e13 (pO G ad p_ad13 ++ (pO G ao p_ao ++ (zO G ad u4 ++ (zO G ao z_ao ++ [])))) (fun h => (sx_h pO_g12 (pO_s12 h))) (Nat.le_of_ble_eq_true rfl) (Nat.le_of_ble_eq_true rfl) dX3_copyFrom_160 (fun H locs hw => ?_)
  refine r_aload0 C hl 0 rfl dX3_copyFrom_163 ?_
  refine lv_iconst (v := 0) C.1 C.2.1 dX3_copyFrom_164 (by decide) ?_
  obtain ⟨p_ad14, e14, hf⟩ := bx hf
  refine r_put C hw _ (gx_h pO_o) 14 fp_X3_68 rfl rfl (Nat.le_of_ble_eq_true rfl) (pO G ad p_ad14 ++ (pO G ao p_ao ++ (zO G ad u4 ++ (zO G ao z_ao ++ [])))) (sx_h pO_o (pO_p14 e14)) dX3_copyFrom_165 (fun H locs hw => ?_)
  exact fin_v C hw (Option.some.inj hf) (fun o => (pO G ad o.1 ++ (pO G ao p_ao ++ (zO G ad o.2 ++ (zO G ao z_ao ++ []))))) rfl dX3_copyFrom_168
set_option maxHeartbeats 4000000 in
set_option maxRecDepth 100000 in
theorem c_X3_countAt (l : Launch) (G : GG) (ad : Nat → Nat) (sz : Nat) (p_ad : Pic) (x1 : Int32) (out : Int32) (hf : f_X3_countAt p_ad x1 = some out) : Met l yX3_countAt (.code yX3_countAt cX3_countAt 4 (some .int) :: BT) ({ frames := 0, cells := 0, slots := 0, locals := 0 }) (va_Pc [.ref (ad 99), .int x1] (PreW G sz (pO G ad p_ad ++ []))) (Ans G out (va_A (pO G ad p_ad ++ []) sz) (pO G ad p_ad ++ [])) 0 0 (va_A (pO G ad p_ad ++ []) sz) := by
  refine Met.into (by decide) (Nat.le_of_ble_eq_true rfl) ?_
  intro p e s m below meth c C hsz ls hl hw
  have hl : lv_has ls 4 [(0, .ref (ad 99)), (1, .int x1)] := hl
  clear hsz
  generalize va_A (pO G ad p_ad ++ []) sz = A at hw ⊢
  have hB_4 : ∀ (k4 : Int32 → Int32 → Option (Int32)) (hk4 : ∀ (v2 : Int32) (v3 : Int32), k4 v2 v3 = some out → ∀ (H : Heap) (locs : List Loc), Wd G A s H locs (pO G ad p_ad ++ []) → ∀ ls : Array Slot, lv_has ls 4 [(0, .ref (ad 99)), (1, .int x1), (2, .int v2), (3, .int v3)] → W p l e ({ frames := 0, cells := 0, slots := 0, locals := 0 }) s m [.ref (ad 99), .int x1].toArray below meth c H locs 0 0 (MQ below (Ans G out A (pO G ad p_ad ++ [])) [.ref (ad 99), .int x1].toArray s 0 0 A) (F0 m 4 ls [])), ∀ (v2 : Int32) (v3 : Int32), b_X3_countAt_4 p_ad x1 k4 v2 v3 = some out → ∀ (H : Heap) (locs : List Loc), Wd G A s H locs (pO G ad p_ad ++ []) → ∀ ls : Array Slot, lv_has ls 4 [(0, .ref (ad 99)), (1, .int x1), (2, .int v2), (3, .int v3)] → W p l e ({ frames := 0, cells := 0, slots := 0, locals := 0 }) s m [.ref (ad 99), .int x1].toArray below meth c H locs 0 0 (MQ below (Ans G out A (pO G ad p_ad ++ [])) [.ref (ad 99), .int x1].toArray s 0 0 A) (F0 m 4 ls []) := by
    intro k4 hk4 v2 v3 hf H locs hw ls hl
    unfold b_X3_countAt_4 at hf
    refine r_iload0 C hl 3 rfl dX3_countAt_4 ?_
    refine lv_bipush (v := 30) C.1 C.2.1 dX3_countAt_5 (by decide) ?_
    refine lv_icmp_ge (tgt := 34) C.1 C.2.1 dX3_countAt_7 (by decide) (fun hc => ?_) (fun hc => ?_)
    · replace hf := ifp hf hc
      refine r_iload0 C hl 2 rfl dX3_countAt_34 ?_
      exact fin_i C hw (Option.some.inj hf) (fun o => o) (fun o => (pO G ad p_ad ++ [])) rfl rfl dX3_countAt_35
    · replace hf := ifn hf hc
      refine r_iload0 C hl 2 rfl dX3_countAt_10 ?_
      refine r_aload0 C hl 0 rfl dX3_countAt_11 ?_
      refine r_get C hw _ (gx_h pO_o) 4 fl_X3_28 rfl dX3_countAt_12 ?_
      refine r_iload0 C hl 3 rfl dX3_countAt_15 ?_
      obtain ⟨v1_, e1, hf⟩ := bx hf
      refine r_iald C hw _ (gx_h pO_g4) e1 dX3_countAt_16 ?_
      refine r_iload0 C hl 1 rfl dX3_countAt_17 ?_
      refine lv_icmp_ne (tgt := 25) C.1 C.2.1 dX3_countAt_18 (by decide) (fun hc => ?_) (fun hc => ?_)
      · replace hf := ifn hf hc
        refine lv_iconst (v := 0) C.1 C.2.1 dX3_countAt_25 (by decide) ?_
        refine lv_iadd C.1 C.2.1 dX3_countAt_26 ?_
        refine r_istore0 C hl [(2, .int (v2 + 0)), (0, .ref (ad 99)), (1, .int x1), (3, .int v3)] (by decide) rfl dX3_countAt_27 (fun ls hl => ?_)
        refine r_iinc C hl 3 (v3 + 1) [(3, .int (v3 + 1)), (2, .int (v2 + 0)), (0, .ref (ad 99)), (1, .int x1)] rfl (iinc_e (by decide)) (by decide) rfl dX3_countAt_28 (fun ls hl => ?_)
        refine lv_goto (tgt := 4) C.1 C.2.1 dX3_countAt_31 (by decide) ?_
        exact hk4 (v2 + 0) (v3 + 1) hf _ _ hw _ (lv_sub hl [2, 3, 1, 0] rfl)
      · replace hf := ifp hf hc
        refine lv_iconst (v := 1) C.1 C.2.1 dX3_countAt_21 (by decide) ?_
        refine lv_goto (tgt := 26) C.1 C.2.1 dX3_countAt_22 (by decide) ?_
        refine lv_iadd C.1 C.2.1 dX3_countAt_26 ?_
        refine r_istore0 C hl [(2, .int (v2 + 1)), (0, .ref (ad 99)), (1, .int x1), (3, .int v3)] (by decide) rfl dX3_countAt_27 (fun ls hl => ?_)
        refine r_iinc C hl 3 (v3 + 1) [(3, .int (v3 + 1)), (2, .int (v2 + 1)), (0, .ref (ad 99)), (1, .int x1)] rfl (iinc_e (by decide)) (by decide) rfl dX3_countAt_28 (fun ls hl => ?_)
        refine lv_goto (tgt := 4) C.1 C.2.1 dX3_countAt_31 (by decide) ?_
        exact hk4 (v2 + 1) (v3 + 1) hf _ _ hw _ (lv_sub hl [2, 3, 1, 0] rfl)
  have hL_4 : ∀ n : Nat, ∀ (v2 : Int32) (v3 : Int32), L_X3_countAt_4 p_ad x1  n v2 v3 = some out → ∀ (H : Heap) (locs : List Loc), Wd G A s H locs (pO G ad p_ad ++ []) → ∀ ls : Array Slot, lv_has ls 4 [(0, .ref (ad 99)), (1, .int x1), (2, .int v2), (3, .int v3)] → W p l e ({ frames := 0, cells := 0, slots := 0, locals := 0 }) s m [.ref (ad 99), .int x1].toArray below meth c H locs 0 0 (MQ below (Ans G out A (pO G ad p_ad ++ [])) [.ref (ad 99), .int x1].toArray s 0 0 A) (F0 m 4 ls []) := by
    intro  n
    induction n with
    | zero => intro v2 v3 hf; cases hf
    | succ n ih => exact hB_4 _ ih
  unfold f_X3_countAt at hf
  refine lv_iconst (v := 0) C.1 C.2.1 dX3_countAt_0 (by decide) ?_
  refine r_istore0 C hl [(2, .int 0), (0, .ref (ad 99)), (1, .int x1)] (by decide) rfl dX3_countAt_1 (fun ls hl => ?_)
  refine lv_iconst (v := 0) C.1 C.2.1 dX3_countAt_2 (by decide) ?_
  refine r_istore0 C hl [(3, .int 0), (2, .int 0), (0, .ref (ad 99)), (1, .int x1)] (by decide) rfl dX3_countAt_3 (fun ls hl => ?_)
  exact hL_4  FU 0 0 hf _ _ hw _ (lv_sub hl [2, 3, 1, 0] rfl)
set_option maxHeartbeats 4000000 in
set_option maxRecDepth 100000 in
theorem c_X3_unitsTaken (l : Launch) (G : GG) (ad : Nat → Nat) (sz : Nat) (p_ad : Pic)  (out : Int32) (hf : f_X3_unitsTaken p_ad = some out) : Met l yX3_unitsTaken (.code yX3_unitsTaken cX3_unitsTaken 3 (some .int) :: BT) ({ frames := 0, cells := 0, slots := 0, locals := 0 }) (va_Pc [.ref (ad 99)] (PreW G sz (pO G ad p_ad ++ []))) (Ans G out (va_A (pO G ad p_ad ++ []) sz) (pO G ad p_ad ++ [])) 0 0 (va_A (pO G ad p_ad ++ []) sz) := by
  refine Met.into (by decide) (Nat.le_of_ble_eq_true rfl) ?_
  intro p e s m below meth c C hsz ls hl hw
  have hl : lv_has ls 3 [(0, .ref (ad 99))] := hl
  clear hsz
  generalize va_A (pO G ad p_ad ++ []) sz = A at hw ⊢
  have hB_4 : ∀ (k4 : Int32 → Int32 → Option (Int32)) (hk4 : ∀ (v1 : Int32) (v2 : Int32), k4 v1 v2 = some out → ∀ (H : Heap) (locs : List Loc), Wd G A s H locs (pO G ad p_ad ++ []) → ∀ ls : Array Slot, lv_has ls 3 [(0, .ref (ad 99)), (1, .int v1), (2, .int v2)] → W p l e ({ frames := 0, cells := 0, slots := 0, locals := 0 }) s m [.ref (ad 99)].toArray below meth c H locs 0 0 (MQ below (Ans G out A (pO G ad p_ad ++ [])) [.ref (ad 99)].toArray s 0 0 A) (F0 m 4 ls [])), ∀ (v1 : Int32) (v2 : Int32), b_X3_unitsTaken_4 p_ad k4 v1 v2 = some out → ∀ (H : Heap) (locs : List Loc), Wd G A s H locs (pO G ad p_ad ++ []) → ∀ ls : Array Slot, lv_has ls 3 [(0, .ref (ad 99)), (1, .int v1), (2, .int v2)] → W p l e ({ frames := 0, cells := 0, slots := 0, locals := 0 }) s m [.ref (ad 99)].toArray below meth c H locs 0 0 (MQ below (Ans G out A (pO G ad p_ad ++ [])) [.ref (ad 99)].toArray s 0 0 A) (F0 m 4 ls []) := by
    intro k4 hk4 v1 v2 hf H locs hw ls hl
    unfold b_X3_unitsTaken_4 at hf
    refine r_iload0 C hl 2 rfl dX3_unitsTaken_4 ?_
    refine lv_bipush (v := 30) C.1 C.2.1 dX3_unitsTaken_5 (by decide) ?_
    refine lv_icmp_ge (tgt := 39) C.1 C.2.1 dX3_unitsTaken_7 (by decide) (fun hc => ?_) (fun hc => ?_)
    · replace hf := ifp hf hc
      refine r_iload0 C hl 1 rfl dX3_unitsTaken_39 ?_
      exact fin_i C hw (Option.some.inj hf) (fun o => o) (fun o => (pO G ad p_ad ++ [])) rfl rfl dX3_unitsTaken_40
    · replace hf := ifn hf hc
      refine r_iload0 C hl 1 rfl dX3_unitsTaken_10 ?_
      refine r_aload0 C hl 0 rfl dX3_unitsTaken_11 ?_
      refine r_get C hw _ (gx_h pO_o) 4 fl_X3_28 rfl dX3_unitsTaken_12 ?_
      refine r_iload0 C hl 2 rfl dX3_unitsTaken_15 ?_
      obtain ⟨v1_, e1, hf⟩ := bx hf
      refine r_iald C hw _ (gx_h pO_g4) e1 dX3_unitsTaken_16 ?_
      refine lv_iconst (v := 2) C.1 C.2.1 dX3_unitsTaken_17 (by decide) ?_
      refine lv_icmp_ne (tgt := 30) C.1 C.2.1 dX3_unitsTaken_18 (by decide) (fun hc => ?_) (fun hc => ?_)
      · replace hf := ifn hf hc
        refine lv_iconst (v := 0) C.1 C.2.1 dX3_unitsTaken_30 (by decide) ?_
        refine lv_iadd C.1 C.2.1 dX3_unitsTaken_31 ?_
        refine r_istore0 C hl [(1, .int (v1 + 0)), (0, .ref (ad 99)), (2, .int v2)] (by decide) rfl dX3_unitsTaken_32 (fun ls hl => ?_)
        refine r_iinc C hl 2 (v2 + 1) [(2, .int (v2 + 1)), (1, .int (v1 + 0)), (0, .ref (ad 99))] rfl (iinc_e (by decide)) (by decide) rfl dX3_unitsTaken_33 (fun ls hl => ?_)
        refine lv_goto (tgt := 4) C.1 C.2.1 dX3_unitsTaken_36 (by decide) ?_
        exact hk4 (v1 + 0) (v2 + 1) hf _ _ hw _ (lv_sub hl [2, 1, 0] rfl)
      · replace hf := ifp hf hc
        refine r_aload0 C hl 0 rfl dX3_unitsTaken_21 ?_
        refine r_get C hw _ (gx_h pO_o) 5 fl_X3_32 rfl dX3_unitsTaken_22 ?_
        refine r_iload0 C hl 2 rfl dX3_unitsTaken_25 ?_
        obtain ⟨v2_, e2, hf⟩ := bx hf
        refine r_iald C hw _ (gx_h pO_g5) e2 dX3_unitsTaken_26 ?_
        refine lv_goto (tgt := 31) C.1 C.2.1 dX3_unitsTaken_27 (by decide) ?_
        refine lv_iadd C.1 C.2.1 dX3_unitsTaken_31 ?_
        refine r_istore0 C hl [(1, .int (v1 + v2_)), (0, .ref (ad 99)), (2, .int v2)] (by decide) rfl dX3_unitsTaken_32 (fun ls hl => ?_)
        refine r_iinc C hl 2 (v2 + 1) [(2, .int (v2 + 1)), (1, .int (v1 + v2_)), (0, .ref (ad 99))] rfl (iinc_e (by decide)) (by decide) rfl dX3_unitsTaken_33 (fun ls hl => ?_)
        refine lv_goto (tgt := 4) C.1 C.2.1 dX3_unitsTaken_36 (by decide) ?_
        exact hk4 (v1 + v2_) (v2 + 1) hf _ _ hw _ (lv_sub hl [2, 1, 0] rfl)
  have hL_4 : ∀ n : Nat, ∀ (v1 : Int32) (v2 : Int32), L_X3_unitsTaken_4 p_ad  n v1 v2 = some out → ∀ (H : Heap) (locs : List Loc), Wd G A s H locs (pO G ad p_ad ++ []) → ∀ ls : Array Slot, lv_has ls 3 [(0, .ref (ad 99)), (1, .int v1), (2, .int v2)] → W p l e ({ frames := 0, cells := 0, slots := 0, locals := 0 }) s m [.ref (ad 99)].toArray below meth c H locs 0 0 (MQ below (Ans G out A (pO G ad p_ad ++ [])) [.ref (ad 99)].toArray s 0 0 A) (F0 m 4 ls []) := by
    intro  n
    induction n with
    | zero => intro v1 v2 hf; cases hf
    | succ n ih => exact hB_4 _ ih
  unfold f_X3_unitsTaken at hf
  refine lv_iconst (v := 0) C.1 C.2.1 dX3_unitsTaken_0 (by decide) ?_
  refine r_istore0 C hl [(1, .int 0), (0, .ref (ad 99))] (by decide) rfl dX3_unitsTaken_1 (fun ls hl => ?_)
  refine lv_iconst (v := 0) C.1 C.2.1 dX3_unitsTaken_2 (by decide) ?_
  refine r_istore0 C hl [(2, .int 0), (1, .int 0), (0, .ref (ad 99))] (by decide) rfl dX3_unitsTaken_3 (fun ls hl => ?_)
  exact hL_4  FU 0 0 hf _ _ hw _ (lv_sub hl [2, 1, 0] rfl)
set_option maxHeartbeats 4000000 in
set_option maxRecDepth 100000 in
theorem c_X3_ageOf (l : Launch) (G : GG) (ad : Nat → Nat) (sz : Nat) (p_ad : Pic) (x1 : Int32) (out : Int32) (hf : f_X3_ageOf p_ad x1 = some out) : Met l yX3_ageOf (.code yX3_ageOf cX3_ageOf 3 (some .int) :: BT) ({ frames := 0, cells := 0, slots := 0, locals := 0 }) (va_Pc [.ref (ad 99), .int x1] (PreW G sz (pO G ad p_ad ++ []))) (Ans G out (va_A (pO G ad p_ad ++ []) sz) (pO G ad p_ad ++ [])) 0 0 (va_A (pO G ad p_ad ++ []) sz) := by
  refine Met.into (by decide) (Nat.le_of_ble_eq_true rfl) ?_
  intro p e s m below meth c C hsz ls hl hw
  have hl : lv_has ls 3 [(0, .ref (ad 99)), (1, .int x1)] := hl
  clear hsz
  generalize va_A (pO G ad p_ad ++ []) sz = A at hw ⊢
  have hB_2 : ∀ (k2 : Int32 → Option (Int32)) (hk2 : ∀ (v2 : Int32), k2 v2 = some out → ∀ (H : Heap) (locs : List Loc), Wd G A s H locs (pO G ad p_ad ++ []) → ∀ ls : Array Slot, lv_has ls 3 [(0, .ref (ad 99)), (1, .int x1), (2, .int v2)] → W p l e ({ frames := 0, cells := 0, slots := 0, locals := 0 }) s m [.ref (ad 99), .int x1].toArray below meth c H locs 0 0 (MQ below (Ans G out A (pO G ad p_ad ++ [])) [.ref (ad 99), .int x1].toArray s 0 0 A) (F0 m 2 ls [])), ∀ (v2 : Int32), b_X3_ageOf_2 p_ad x1 k2 v2 = some out → ∀ (H : Heap) (locs : List Loc), Wd G A s H locs (pO G ad p_ad ++ []) → ∀ ls : Array Slot, lv_has ls 3 [(0, .ref (ad 99)), (1, .int x1), (2, .int v2)] → W p l e ({ frames := 0, cells := 0, slots := 0, locals := 0 }) s m [.ref (ad 99), .int x1].toArray below meth c H locs 0 0 (MQ below (Ans G out A (pO G ad p_ad ++ [])) [.ref (ad 99), .int x1].toArray s 0 0 A) (F0 m 2 ls []) := by
    intro k2 hk2 v2 hf H locs hw ls hl
    unfold b_X3_ageOf_2 at hf
    refine r_iload0 C hl 2 rfl dX3_ageOf_2 ?_
    refine r_aload0 C hl 0 rfl dX3_ageOf_3 ?_
    refine r_get C hw _ (gx_h pO_o) 11 fl_X3_65 rfl dX3_ageOf_4 ?_
    refine lv_icmp_ge (tgt := 34) C.1 C.2.1 dX3_ageOf_7 (by decide) (fun hc => ?_) (fun hc => ?_)
    · replace hf := ifp hf hc
      refine lv_iconst (v := (-1)) C.1 C.2.1 dX3_ageOf_34 (by decide) ?_
      exact fin_i C hw (Option.some.inj hf) (fun o => o) (fun o => (pO G ad p_ad ++ [])) rfl rfl dX3_ageOf_35
    · replace hf := ifn hf hc
      refine r_iload0 C hl 2 rfl dX3_ageOf_10 ?_
      refine lv_bipush (v := 30) C.1 C.2.1 dX3_ageOf_11 (by decide) ?_
      refine lv_icmp_ge (tgt := 34) C.1 C.2.1 dX3_ageOf_13 (by decide) (fun hc => ?_) (fun hc => ?_)
      · replace hf := ifp hf hc
        refine lv_iconst (v := (-1)) C.1 C.2.1 dX3_ageOf_34 (by decide) ?_
        exact fin_i C hw (Option.some.inj hf) (fun o => o) (fun o => (pO G ad p_ad ++ [])) rfl rfl dX3_ageOf_35
      · replace hf := ifn hf hc
        refine r_aload0 C hl 0 rfl dX3_ageOf_16 ?_
        refine r_get C hw _ (gx_h pO_o) 10 fl_X3_47 rfl dX3_ageOf_17 ?_
        refine r_iload0 C hl 2 rfl dX3_ageOf_20 ?_
        obtain ⟨v1_, e1, hf⟩ := bx hf
        refine r_iald C hw _ (gx_h pO_g10) e1 dX3_ageOf_21 ?_
        refine r_iload0 C hl 1 rfl dX3_ageOf_22 ?_
        refine lv_icmp_ne (tgt := 28) C.1 C.2.1 dX3_ageOf_23 (by decide) (fun hc => ?_) (fun hc => ?_)
        · replace hf := ifn hf hc
          refine r_iinc C hl 2 (v2 + 1) [(2, .int (v2 + 1)), (0, .ref (ad 99)), (1, .int x1)] rfl (iinc_e (by decide)) (by decide) rfl dX3_ageOf_28 (fun ls hl => ?_)
          refine lv_goto (tgt := 2) C.1 C.2.1 dX3_ageOf_31 (by decide) ?_
          exact hk2 (v2 + 1) hf _ _ hw _ (lv_sub hl [1, 2, 0] rfl)
        · replace hf := ifp hf hc
          refine r_iload0 C hl 2 rfl dX3_ageOf_26 ?_
          exact fin_i C hw (Option.some.inj hf) (fun o => o) (fun o => (pO G ad p_ad ++ [])) rfl rfl dX3_ageOf_27
  have hL_2 : ∀ n : Nat, ∀ (v2 : Int32), L_X3_ageOf_2 p_ad x1  n v2 = some out → ∀ (H : Heap) (locs : List Loc), Wd G A s H locs (pO G ad p_ad ++ []) → ∀ ls : Array Slot, lv_has ls 3 [(0, .ref (ad 99)), (1, .int x1), (2, .int v2)] → W p l e ({ frames := 0, cells := 0, slots := 0, locals := 0 }) s m [.ref (ad 99), .int x1].toArray below meth c H locs 0 0 (MQ below (Ans G out A (pO G ad p_ad ++ [])) [.ref (ad 99), .int x1].toArray s 0 0 A) (F0 m 2 ls []) := by
    intro  n
    induction n with
    | zero => intro v2 hf; cases hf
    | succ n ih => exact hB_2 _ ih
  unfold f_X3_ageOf at hf
  refine lv_iconst (v := 0) C.1 C.2.1 dX3_ageOf_0 (by decide) ?_
  refine r_istore0 C hl [(2, .int 0), (0, .ref (ad 99)), (1, .int x1)] (by decide) rfl dX3_ageOf_1 (fun ls hl => ?_)
  exact hL_2  FU 0 hf _ _ hw _ (lv_sub hl [1, 2, 0] rfl)
set_option maxHeartbeats 4000000 in
set_option maxRecDepth 100000 in
theorem c_X3_zoneFor (l : Launch) (G : GG) (ad : Nat → Nat) (sz : Nat) (p_ad : Pic) (z_ad : Pic) (x1 : Int32) (out : Int32) (hf : f_X3_zoneFor p_ad z_ad x1 = some out) : Met l yX3_zoneFor (.code yX3_zoneFor cX3_zoneFor 3 (some .int) :: BT) ({ frames := 2, cells := 0, slots := 0, locals := 46 }) (va_Pc [.ref (ad 99), .int x1] (PreW G sz (pO G ad p_ad ++ (zO G ad z_ad ++ [])))) (Ans G out (va_A (pO G ad p_ad ++ (zO G ad z_ad ++ [])) sz) (pO G ad p_ad ++ (zO G ad z_ad ++ []))) 0 0 (va_A (pO G ad p_ad ++ (zO G ad z_ad ++ [])) sz) := by
  refine Met.into (by decide) (Nat.le_of_ble_eq_true rfl) ?_
  intro p e s m below meth c C hsz ls hl hw
  have hl : lv_has ls 3 [(0, .ref (ad 99)), (1, .int x1)] := hl
  clear hsz
  generalize va_A (pO G ad p_ad ++ (zO G ad z_ad ++ [])) sz = A at hw ⊢
  unfold f_X3_zoneFor at hf
  refine r_aload0 C hl 0 rfl dX3_zoneFor_0 ?_
  refine r_get C hw _ (gx_h pO_o) 3 fl_X3_24 rfl dX3_zoneFor_1 ?_
  refine r_iload0 C hl 1 rfl dX3_zoneFor_4 ?_
  refine lv_iconst (v := (-1)) C.1 C.2.1 dX3_zoneFor_5 (by decide) ?_
  obtain ⟨u1, e1, hf⟩ := bx hf
  refine r_callVi (ws' := (pO G ad p_ad ++ (zO G ad z_ad ++ []))) (As := [.int x1, .int (-1)]) (rest := []) C hw hl.1 kX7_fullest ml_X3_95 (c_X7_fullest l G ad _ z_ad x1 (-1) u1 e1) (CutX.skip (CutX.take zO_f CutX.none)) _ (gx_t (gx_h zO_o)) rfl ⟨rfl, rfl⟩ ⟨Nat.le_of_ble_eq_true rfl, Nat.le_of_ble_eq_true rfl⟩ rfl ⟨Nat.zero_le _, Nat.zero_le _⟩ rfl (Nat.le_of_ble_eq_true rfl) dX3_zoneFor_6 (fun H locs hw => ?_)
  refine r_istore0 C hl [(2, .int u1), (0, .ref (ad 99)), (1, .int x1)] (by decide) rfl dX3_zoneFor_9 (fun ls hl => ?_)
  refine r_iload0 C hl 0 rfl dX3_zoneFor_10 ?_
  refine lv_if_lt (tgt := 16) C.1 C.2.1 dX3_zoneFor_11 (by decide) (fun hc => ?_) (fun hc => ?_)
  · replace hf := ifp hf hc
    refine r_aload0 C hl 1 rfl dX3_zoneFor_16 ?_
    refine r_get C hw _ (gx_h pO_o) 3 fl_X3_24 rfl dX3_zoneFor_17 ?_
    obtain ⟨u2, e2, hf⟩ := bx hf
    refine r_callVi (ws' := (pO G ad p_ad ++ (zO G ad z_ad ++ []))) (As := []) (rest := []) C hw hl.1 kX7_freeNumber ml_X3_98 (c_X7_freeNumber l G ad _ z_ad u2 e2) (CutX.skip (CutX.take zO_f CutX.none)) _ (gx_t (gx_h zO_o)) rfl ⟨rfl, rfl⟩ ⟨Nat.le_of_ble_eq_true rfl, Nat.le_of_ble_eq_true rfl⟩ rfl ⟨Nat.zero_le _, Nat.zero_le _⟩ rfl (Nat.le_of_ble_eq_true rfl) dX3_zoneFor_20 (fun H locs hw => ?_)
    refine r_istore0 C hl [(2, .int u2), (0, .ref (ad 99)), (1, .int x1)] (by decide) rfl dX3_zoneFor_23 (fun ls hl => ?_)
    refine r_iload0 C hl 0 rfl dX3_zoneFor_24 ?_
    refine lv_if_lt (tgt := 51) C.1 C.2.1 dX3_zoneFor_25 (by decide) (fun hc => ?_) (fun hc => ?_)
    · replace hf := ifp hf hc
      refine lv_bipush (v := (-2)) C.1 C.2.1 dX3_zoneFor_51 (by decide) ?_
      exact fin_i C hw (Option.some.inj hf) (fun o => o) (fun o => (pO G ad p_ad ++ (zO G ad z_ad ++ []))) rfl rfl dX3_zoneFor_53
    · replace hf := ifn hf hc
      refine r_aload0 C hl 1 rfl dX3_zoneFor_28 ?_
      refine r_get C hw _ (gx_h pO_o) 3 fl_X3_24 rfl dX3_zoneFor_29 ?_
      refine r_get C hw _ (gx_t (gx_h zO_o)) 0 fl_X3_102 rfl dX3_zoneFor_32 ?_
      refine r_iload0 C hl 2 rfl dX3_zoneFor_35 ?_
      obtain ⟨u3, e3, hf⟩ := bx hf
      refine r_callSi (ws' := (pO G ad p_ad ++ (zO G ad z_ad ++ []))) (As := [.int x1]) (rest := [.int (gS z_ad 0)]) C hw hl.1 kX0_framesOf ml_X3_105 (c_X0_framesOf l G _ x1 u3 e3) CutX.none ⟨rfl, rfl⟩ ⟨Nat.le_of_ble_eq_true rfl, Nat.le_of_ble_eq_true rfl⟩ rfl ⟨Nat.zero_le _, Nat.zero_le _⟩ rfl (Nat.le_of_ble_eq_true rfl) dX3_zoneFor_36 (fun H locs hw => ?_)
      refine lv_iadd C.1 C.2.1 dX3_zoneFor_39 ?_
      refine r_aload0 C hl 1 rfl dX3_zoneFor_40 ?_
      refine r_get C hw _ (gx_h pO_o) 0 fl_X3_9 rfl dX3_zoneFor_41 ?_
      refine lv_icmp_gt (tgt := 51) C.1 C.2.1 dX3_zoneFor_44 (by decide) (fun hc => ?_) (fun hc => ?_)
      · replace hf := ifp hf hc
        refine lv_bipush (v := (-2)) C.1 C.2.1 dX3_zoneFor_51 (by decide) ?_
        exact fin_i C hw (Option.some.inj hf) (fun o => o) (fun o => (pO G ad p_ad ++ (zO G ad z_ad ++ []))) rfl rfl dX3_zoneFor_53
      · replace hf := ifn hf hc
        refine r_iload0 C hl 0 rfl dX3_zoneFor_47 ?_
        refine lv_goto (tgt := 53) C.1 C.2.1 dX3_zoneFor_48 (by decide) ?_
        exact fin_i C hw (Option.some.inj hf) (fun o => o) (fun o => (pO G ad p_ad ++ (zO G ad z_ad ++ []))) rfl rfl dX3_zoneFor_53
  · replace hf := ifn hf hc
    refine r_iload0 C hl 0 rfl dX3_zoneFor_14 ?_
    exact fin_i C hw (Option.some.inj hf) (fun o => o) (fun o => (pO G ad p_ad ++ (zO G ad z_ad ++ []))) rfl rfl dX3_zoneFor_15
set_option maxHeartbeats 4000000 in
set_option maxRecDepth 100000 in
theorem c_X3_notePushed (l : Launch) (G : GG) (ad : Nat → Nat) (sz : Nat) (p_ad : Pic) (x1 : Int32) (out : Pic) (hf : f_X3_notePushed p_ad x1 = some out) : Met l yX3_notePushed (.code yX3_notePushed cX3_notePushed 2 none :: BT) ({ frames := 0, cells := 0, slots := 0, locals := 0 }) (va_Pc [.ref (ad 99), .int x1] (PreW G sz (pO G ad p_ad ++ []))) (Don G (va_A (pO G ad p_ad ++ []) sz) (pO G ad out ++ [])) 0 0 (va_A (pO G ad p_ad ++ []) sz) := by
  refine Met.into (by decide) (Nat.le_of_ble_eq_true rfl) ?_
  intro p e s m below meth c C hsz ls hl hw
  have hl : lv_has ls 2 [(0, .ref (ad 99)), (1, .int x1)] := hl
  clear hsz
  generalize va_A (pO G ad p_ad ++ []) sz = A at hw ⊢
  unfold f_X3_notePushed at hf
  refine r_aload0 C hl 0 rfl dX3_notePushed_0 ?_
  refine r_get C hw _ (gx_h pO_o) 12 fl_X3_50 rfl dX3_notePushed_1 ?_
  refine lv_iconst (v := 1) C.1 C.2.1 dX3_notePushed_4 (by decide) ?_
  refine lv_dup2_11 C.1 C.2.1 dX3_notePushed_5 rfl rfl ?_
  obtain ⟨v1_, e1, hf⟩ := bx hf
  refine r_iald C hw _ (gx_h pO_g12) e1 dX3_notePushed_6 ?_
  refine lv_iconst (v := 1) C.1 C.2.1 dX3_notePushed_7 (by decide) ?_
  refine lv_iadd C.1 C.2.1 dX3_notePushed_8 ?_
  obtain ⟨p_ad2, e2, hf⟩ := bx hf
  refine r_iast C hw _ (gx_h pO_g12) e2 (pO G ad p_ad2 ++ []) (fun h => (sx_h pO_g12 (pO_s12 h))) dX3_notePushed_9 (fun H locs hw => ?_)
  refine r_aload0 C hl 0 rfl dX3_notePushed_10 ?_
  refine r_get C hw _ (gx_h pO_o) 14 fl_X3_68 rfl dX3_notePushed_11 ?_
  refine lv_bipush (v := 30) C.1 C.2.1 dX3_notePushed_14 (by decide) ?_
  refine lv_icmp_ge (tgt := 39) C.1 C.2.1 dX3_notePushed_16 (by decide) (fun hc => ?_) (fun hc => ?_)
  · replace hf := ifp hf hc
    exact fin_v C hw (Option.some.inj hf) (fun o => (pO G ad o ++ [])) rfl dX3_notePushed_39
  · replace hf := ifn hf hc
    refine r_aload0 C hl 0 rfl dX3_notePushed_19 ?_
    refine r_get C hw _ (gx_h pO_o) 13 fl_X3_53 rfl dX3_notePushed_20 ?_
    refine r_aload0 C hl 0 rfl dX3_notePushed_23 ?_
    refine r_get C hw _ (gx_h pO_o) 14 fl_X3_68 rfl dX3_notePushed_24 ?_
    refine r_iload0 C hl 1 rfl dX3_notePushed_27 ?_
    obtain ⟨p_ad3, e3, hf⟩ := bx hf
    refine r_iast C hw _ (gx_h pO_g13) e3 (pO G ad p_ad3 ++ []) (fun h => (sx_h pO_g13 (pO_s13 h))) dX3_notePushed_28 (fun H locs hw => ?_)
    refine r_aload0 C hl 0 rfl dX3_notePushed_29 ?_
    refine lv_dup C.1 C.2.1 dX3_notePushed_30 rfl ?_
    refine r_get C hw _ (gx_h pO_o) 14 fl_X3_68 rfl dX3_notePushed_31 ?_
    refine lv_iconst (v := 1) C.1 C.2.1 dX3_notePushed_34 (by decide) ?_
    refine lv_iadd C.1 C.2.1 dX3_notePushed_35 ?_
    obtain ⟨p_ad4, e4, hf⟩ := bx hf
    refine r_put C hw _ (gx_h pO_o) 14 fp_X3_68 rfl rfl (Nat.le_of_ble_eq_true rfl) (pO G ad p_ad4 ++ []) (sx_h pO_o (pO_p14 e4)) dX3_notePushed_36 (fun H locs hw => ?_)
    exact fin_v C hw (Option.some.inj hf) (fun o => (pO G ad o ++ [])) rfl dX3_notePushed_39
set_option maxHeartbeats 4000000 in
set_option maxRecDepth 100000 in
theorem c_X3_leaveAges (l : Launch) (G : GG) (ad : Nat → Nat) (sz : Nat) (p_ad : Pic) (x1 : Int32) (out : Pic) (hf : f_X3_leaveAges p_ad x1 = some out) : Met l yX3_leaveAges (.code yX3_leaveAges cX3_leaveAges 4 none :: BT) ({ frames := 0, cells := 0, slots := 0, locals := 0 }) (va_Pc [.ref (ad 99), .int x1] (PreW G sz (pO G ad p_ad ++ []))) (Don G (va_A (pO G ad p_ad ++ []) sz) (pO G ad out ++ [])) 0 0 (va_A (pO G ad p_ad ++ []) sz) := by
  refine Met.into (by decide) (Nat.le_of_ble_eq_true rfl) ?_
  intro p e s m below meth c C hsz ls hl hw
  have hl : lv_has ls 4 [(0, .ref (ad 99)), (1, .int x1)] := hl
  clear hsz
  generalize va_A (pO G ad p_ad ++ []) sz = A at hw ⊢
  have hB_49 : ∀ (p_ad : Pic) (v2 : Int32), b_X3_leaveAges_49 x1  p_ad v2 = some out → ∀ (H : Heap) (locs : List Loc), Wd G A s H locs (pO G ad p_ad ++ []) → ∀ ls : Array Slot, lv_has ls 4 [(0, .ref (ad 99)), (2, .int v2)] → W p l e ({ frames := 0, cells := 0, slots := 0, locals := 0 }) s m [.ref (ad 99), .int x1].toArray below meth c H locs 0 0 (MQ below (Don G A (pO G ad out ++ [])) [.ref (ad 99), .int x1].toArray s 0 0 A) (F0 m 49 ls []) := by
    intro p_ad v2 hf H locs hw ls hl
    unfold b_X3_leaveAges_49 at hf
    refine r_aload0 C hl 0 rfl dX3_leaveAges_49 ?_
    refine r_iload0 C hl 1 rfl dX3_leaveAges_50 ?_
    obtain ⟨p_ad1, e1, hf⟩ := bx hf
    refine r_put C hw _ (gx_h pO_o) 11 fp_X3_65 rfl rfl (Nat.le_of_ble_eq_true rfl) (pO G ad p_ad1 ++ []) (sx_h pO_o (pO_p11 e1)) dX3_leaveAges_51 (fun H locs hw => ?_)
    exact fin_v C hw (Option.some.inj hf) (fun o => (pO G ad o ++ [])) rfl dX3_leaveAges_54
  have hB_4 : ∀ (k4 : Pic → Int32 → Int32 → Option (Pic)) (hk4 : ∀ (p_ad : Pic) (v2 : Int32) (v3 : Int32), k4 p_ad v2 v3 = some out → ∀ (H : Heap) (locs : List Loc), Wd G A s H locs (pO G ad p_ad ++ []) → ∀ ls : Array Slot, lv_has ls 4 [(0, .ref (ad 99)), (1, .int x1), (2, .int v2), (3, .int v3)] → W p l e ({ frames := 0, cells := 0, slots := 0, locals := 0 }) s m [.ref (ad 99), .int x1].toArray below meth c H locs 0 0 (MQ below (Don G A (pO G ad out ++ [])) [.ref (ad 99), .int x1].toArray s 0 0 A) (F0 m 4 ls [])), ∀ (p_ad : Pic) (v2 : Int32) (v3 : Int32), b_X3_leaveAges_4 x1 k4 p_ad v2 v3 = some out → ∀ (H : Heap) (locs : List Loc), Wd G A s H locs (pO G ad p_ad ++ []) → ∀ ls : Array Slot, lv_has ls 4 [(0, .ref (ad 99)), (1, .int x1), (2, .int v2), (3, .int v3)] → W p l e ({ frames := 0, cells := 0, slots := 0, locals := 0 }) s m [.ref (ad 99), .int x1].toArray below meth c H locs 0 0 (MQ below (Don G A (pO G ad out ++ [])) [.ref (ad 99), .int x1].toArray s 0 0 A) (F0 m 4 ls []) := by
    intro k4 hk4 p_ad v2 v3 hf H locs hw ls hl
    unfold b_X3_leaveAges_4 at hf
    refine r_iload0 C hl 3 rfl dX3_leaveAges_4 ?_
    refine r_aload0 C hl 0 rfl dX3_leaveAges_5 ?_
    refine r_get C hw _ (gx_h pO_o) 11 fl_X3_65 rfl dX3_leaveAges_6 ?_
    refine lv_icmp_ge (tgt := 49) C.1 C.2.1 dX3_leaveAges_9 (by decide) (fun hc => ?_) (fun hc => ?_)
    · replace hf := ifp hf hc
      exact hB_49  p_ad v2 hf _ _ hw _ (lv_sub hl [0, 2] rfl)
    · replace hf := ifn hf hc
      refine r_iload0 C hl 3 rfl dX3_leaveAges_12 ?_
      refine lv_bipush (v := 30) C.1 C.2.1 dX3_leaveAges_13 (by decide) ?_
      refine lv_icmp_ge (tgt := 49) C.1 C.2.1 dX3_leaveAges_15 (by decide) (fun hc => ?_) (fun hc => ?_)
      · replace hf := ifp hf hc
        exact hB_49  p_ad v2 hf _ _ hw _ (lv_sub hl [0, 2] rfl)
      · replace hf := ifn hf hc
        refine r_aload0 C hl 0 rfl dX3_leaveAges_18 ?_
        refine r_get C hw _ (gx_h pO_o) 10 fl_X3_47 rfl dX3_leaveAges_19 ?_
        refine r_iload0 C hl 3 rfl dX3_leaveAges_22 ?_
        obtain ⟨v2_, e2, hf⟩ := bx hf
        refine r_iald C hw _ (gx_h pO_g10) e2 dX3_leaveAges_23 ?_
        refine r_iload0 C hl 1 rfl dX3_leaveAges_24 ?_
        refine lv_icmp_eq (tgt := 43) C.1 C.2.1 dX3_leaveAges_25 (by decide) (fun hc => ?_) (fun hc => ?_)
        · replace hf := ifp hf hc
          refine r_iinc C hl 3 (v3 + 1) [(3, .int (v3 + 1)), (0, .ref (ad 99)), (1, .int x1), (2, .int v2)] rfl (iinc_e (by decide)) (by decide) rfl dX3_leaveAges_43 (fun ls hl => ?_)
          refine lv_goto (tgt := 4) C.1 C.2.1 dX3_leaveAges_46 (by decide) ?_
          exact hk4 p_ad v2 (v3 + 1) hf _ _ hw _ (lv_sub hl [1, 2, 3, 0] rfl)
        · replace hf := ifn hf hc
          refine r_aload0 C hl 0 rfl dX3_leaveAges_28 ?_
          refine r_get C hw _ (gx_h pO_o) 10 fl_X3_47 rfl dX3_leaveAges_29 ?_
          refine r_iload0 C hl 2 rfl dX3_leaveAges_32 ?_
          refine r_aload0 C hl 0 rfl dX3_leaveAges_33 ?_
          refine r_get C hw _ (gx_h pO_o) 10 fl_X3_47 rfl dX3_leaveAges_34 ?_
          refine r_iload0 C hl 3 rfl dX3_leaveAges_37 ?_
          obtain ⟨v3_, e3, hf⟩ := bx hf
          refine r_iald C hw _ (gx_h pO_g10) e3 dX3_leaveAges_38 ?_
          obtain ⟨p_ad4, e4, hf⟩ := bx hf
          refine r_iast C hw _ (gx_h pO_g10) e4 (pO G ad p_ad4 ++ []) (fun h => (sx_h pO_g10 (pO_s10 h))) dX3_leaveAges_39 (fun H locs hw => ?_)
          refine r_iinc C hl 2 (v2 + 1) [(2, .int (v2 + 1)), (0, .ref (ad 99)), (1, .int x1), (3, .int v3)] rfl (iinc_e (by decide)) (by decide) rfl dX3_leaveAges_40 (fun ls hl => ?_)
          refine r_iinc C hl 3 (v3 + 1) [(3, .int (v3 + 1)), (2, .int (v2 + 1)), (0, .ref (ad 99)), (1, .int x1)] rfl (iinc_e (by decide)) (by decide) rfl dX3_leaveAges_43 (fun ls hl => ?_)
          refine lv_goto (tgt := 4) C.1 C.2.1 dX3_leaveAges_46 (by decide) ?_
          exact hk4 p_ad4 (v2 + 1) (v3 + 1) hf _ _ hw _ (lv_sub hl [2, 3, 1, 0] rfl)
  have hL_4 : ∀ n : Nat, ∀ (p_ad : Pic) (v2 : Int32) (v3 : Int32), L_X3_leaveAges_4 x1  n p_ad v2 v3 = some out → ∀ (H : Heap) (locs : List Loc), Wd G A s H locs (pO G ad p_ad ++ []) → ∀ ls : Array Slot, lv_has ls 4 [(0, .ref (ad 99)), (1, .int x1), (2, .int v2), (3, .int v3)] → W p l e ({ frames := 0, cells := 0, slots := 0, locals := 0 }) s m [.ref (ad 99), .int x1].toArray below meth c H locs 0 0 (MQ below (Don G A (pO G ad out ++ [])) [.ref (ad 99), .int x1].toArray s 0 0 A) (F0 m 4 ls []) := by
    intro  n
    induction n with
    | zero => intro p_ad v2 v3 hf; cases hf
    | succ n ih => exact hB_4 _ ih
  unfold f_X3_leaveAges at hf
  refine lv_iconst (v := 0) C.1 C.2.1 dX3_leaveAges_0 (by decide) ?_
  refine r_istore0 C hl [(2, .int 0), (0, .ref (ad 99)), (1, .int x1)] (by decide) rfl dX3_leaveAges_1 (fun ls hl => ?_)
  refine lv_iconst (v := 0) C.1 C.2.1 dX3_leaveAges_2 (by decide) ?_
  refine r_istore0 C hl [(3, .int 0), (2, .int 0), (0, .ref (ad 99)), (1, .int x1)] (by decide) rfl dX3_leaveAges_3 (fun ls hl => ?_)
  exact hL_4  FU p_ad 0 0 hf _ _ hw _ (lv_sub hl [2, 3, 1, 0] rfl)
set_option maxHeartbeats 4000000 in
set_option maxRecDepth 100000 in
theorem c_X3_addYoungest (l : Launch) (G : GG) (ad : Nat → Nat) (sz : Nat) (p_ad : Pic) (x1 : Int32) (out : Pic) (hf : f_X3_addYoungest p_ad x1 = some out) : Met l yX3_addYoungest (.code yX3_addYoungest cX3_addYoungest 2 none :: BT) ({ frames := 0, cells := 0, slots := 0, locals := 0 }) (va_Pc [.ref (ad 99), .int x1] (PreW G sz (pO G ad p_ad ++ []))) (Don G (va_A (pO G ad p_ad ++ []) sz) (pO G ad out ++ [])) 0 0 (va_A (pO G ad p_ad ++ []) sz) := by
  refine Met.into (by decide) (Nat.le_of_ble_eq_true rfl) ?_
  intro p e s m below meth c C hsz ls hl hw
  have hl : lv_has ls 2 [(0, .ref (ad 99)), (1, .int x1)] := hl
  clear hsz
  generalize va_A (pO G ad p_ad ++ []) sz = A at hw ⊢
  unfold f_X3_addYoungest at hf
  refine r_aload0 C hl 0 rfl dX3_addYoungest_0 ?_
  refine r_get C hw _ (gx_h pO_o) 11 fl_X3_65 rfl dX3_addYoungest_1 ?_
  refine lv_bipush (v := 30) C.1 C.2.1 dX3_addYoungest_4 (by decide) ?_
  refine lv_icmp_ge (tgt := 29) C.1 C.2.1 dX3_addYoungest_6 (by decide) (fun hc => ?_) (fun hc => ?_)
  · replace hf := ifp hf hc
    exact fin_v C hw (Option.some.inj hf) (fun o => (pO G ad o ++ [])) rfl dX3_addYoungest_29
  · replace hf := ifn hf hc
    refine r_aload0 C hl 0 rfl dX3_addYoungest_9 ?_
    refine r_get C hw _ (gx_h pO_o) 10 fl_X3_47 rfl dX3_addYoungest_10 ?_
    refine r_aload0 C hl 0 rfl dX3_addYoungest_13 ?_
    refine r_get C hw _ (gx_h pO_o) 11 fl_X3_65 rfl dX3_addYoungest_14 ?_
    refine r_iload0 C hl 1 rfl dX3_addYoungest_17 ?_
    obtain ⟨p_ad1, e1, hf⟩ := bx hf
    refine r_iast C hw _ (gx_h pO_g10) e1 (pO G ad p_ad1 ++ []) (fun h => (sx_h pO_g10 (pO_s10 h))) dX3_addYoungest_18 (fun H locs hw => ?_)
    refine r_aload0 C hl 0 rfl dX3_addYoungest_19 ?_
    refine lv_dup C.1 C.2.1 dX3_addYoungest_20 rfl ?_
    refine r_get C hw _ (gx_h pO_o) 11 fl_X3_65 rfl dX3_addYoungest_21 ?_
    refine lv_iconst (v := 1) C.1 C.2.1 dX3_addYoungest_24 (by decide) ?_
    refine lv_iadd C.1 C.2.1 dX3_addYoungest_25 ?_
    obtain ⟨p_ad2, e2, hf⟩ := bx hf
    refine r_put C hw _ (gx_h pO_o) 11 fp_X3_65 rfl rfl (Nat.le_of_ble_eq_true rfl) (pO G ad p_ad2 ++ []) (sx_h pO_o (pO_p11 e2)) dX3_addYoungest_26 (fun H locs hw => ?_)
    exact fin_v C hw (Option.some.inj hf) (fun o => (pO G ad o ++ [])) rfl dX3_addYoungest_29
set_option maxHeartbeats 4000000 in
set_option maxRecDepth 100000 in
theorem c_X3_pagesAtHome (l : Launch) (G : GG) (ad : Nat → Nat) (sz : Nat) (p_ad : Pic) (x1 x2 : Int32) (out : Int32) (hf : f_X3_pagesAtHome p_ad x1 x2 = some out) : Met l yX3_pagesAtHome (.code yX3_pagesAtHome cX3_pagesAtHome 5 (some .int) :: BT) ({ frames := 1, cells := 0, slots := 0, locals := 21 }) (va_Pc [.ref (ad 99), .int x1, .int x2] (PreW G sz (pO G ad p_ad ++ []))) (Ans G out (va_A (pO G ad p_ad ++ []) sz) (pO G ad p_ad ++ [])) 0 0 (va_A (pO G ad p_ad ++ []) sz) := by
  refine Met.into (by decide) (Nat.le_of_ble_eq_true rfl) ?_
  intro p e s m below meth c C hsz ls hl hw
  have hl : lv_has ls 5 [(0, .ref (ad 99)), (1, .int x1), (2, .int x2)] := hl
  clear hsz
  generalize va_A (pO G ad p_ad ++ []) sz = A at hw ⊢
  have hB_5 : ∀ (k5 : Int32 → Int32 → Option (Int32)) (hk5 : ∀ (v3 : Int32) (v4 : Int32), k5 v3 v4 = some out → ∀ (H : Heap) (locs : List Loc), Wd G A s H locs (pO G ad p_ad ++ []) → ∀ ls : Array Slot, lv_has ls 5 [(0, .ref (ad 99)), (1, .int x1), (2, .int x2), (3, .int v3), (4, .int v4)] → W p l e ({ frames := 1, cells := 0, slots := 0, locals := 21 }) s m [.ref (ad 99), .int x1, .int x2].toArray below meth c H locs 0 0 (MQ below (Ans G out A (pO G ad p_ad ++ [])) [.ref (ad 99), .int x1, .int x2].toArray s 0 0 A) (F0 m 5 ls [])), ∀ (v3 : Int32) (v4 : Int32), b_X3_pagesAtHome_5 p_ad x1 x2 k5 v3 v4 = some out → ∀ (H : Heap) (locs : List Loc), Wd G A s H locs (pO G ad p_ad ++ []) → ∀ ls : Array Slot, lv_has ls 5 [(0, .ref (ad 99)), (1, .int x1), (2, .int x2), (3, .int v3), (4, .int v4)] → W p l e ({ frames := 1, cells := 0, slots := 0, locals := 21 }) s m [.ref (ad 99), .int x1, .int x2].toArray below meth c H locs 0 0 (MQ below (Ans G out A (pO G ad p_ad ++ [])) [.ref (ad 99), .int x1, .int x2].toArray s 0 0 A) (F0 m 5 ls []) := by
    intro k5 hk5 v3 v4 hf H locs hw ls hl
    unfold b_X3_pagesAtHome_5 at hf
    refine r_iload C hl 4 rfl dX3_pagesAtHome_5 ?_
    refine lv_bipush (v := 30) C.1 C.2.1 dX3_pagesAtHome_7 (by decide) ?_
    refine lv_icmp_ge (tgt := 47) C.1 C.2.1 dX3_pagesAtHome_9 (by decide) (fun hc => ?_) (fun hc => ?_)
    · replace hf := ifp hf hc
      refine r_iload0 C hl 3 rfl dX3_pagesAtHome_47 ?_
      exact fin_i C hw (Option.some.inj hf) (fun o => o) (fun o => (pO G ad p_ad ++ [])) rfl rfl dX3_pagesAtHome_48
    · replace hf := ifn hf hc
      refine r_aload0 C hl 0 rfl dX3_pagesAtHome_12 ?_
      refine r_get C hw _ (gx_h pO_o) 4 fl_X3_28 rfl dX3_pagesAtHome_13 ?_
      refine r_iload C hl 4 rfl dX3_pagesAtHome_16 ?_
      obtain ⟨v1_, e1, hf⟩ := bx hf
      refine r_iald C hw _ (gx_h pO_g4) e1 dX3_pagesAtHome_18 ?_
      refine lv_iconst (v := 2) C.1 C.2.1 dX3_pagesAtHome_19 (by decide) ?_
      refine lv_icmp_ne (tgt := 41) C.1 C.2.1 dX3_pagesAtHome_20 (by decide) (fun hc => ?_) (fun hc => ?_)
      · replace hf := ifn hf hc
        refine r_iinc C hl 4 (v4 + 1) [(4, .int (v4 + 1)), (0, .ref (ad 99)), (1, .int x1), (2, .int x2), (3, .int v3)] rfl (iinc_e (by decide)) (by decide) rfl dX3_pagesAtHome_41 (fun ls hl => ?_)
        refine lv_goto (tgt := 5) C.1 C.2.1 dX3_pagesAtHome_44 (by decide) ?_
        exact hk5 v3 (v4 + 1) hf _ _ hw _ (lv_sub hl [1, 2, 3, 4, 0] rfl)
      · replace hf := ifp hf hc
        refine r_aload0 C hl 0 rfl dX3_pagesAtHome_23 ?_
        refine r_get C hw _ (gx_h pO_o) 5 fl_X3_32 rfl dX3_pagesAtHome_24 ?_
        refine r_iload C hl 4 rfl dX3_pagesAtHome_27 ?_
        obtain ⟨v2_, e2, hf⟩ := bx hf
        refine r_iald C hw _ (gx_h pO_g5) e2 dX3_pagesAtHome_29 ?_
        refine r_iload0 C hl 2 rfl dX3_pagesAtHome_30 ?_
        obtain ⟨u3, e3, hf⟩ := bx hf
        refine r_callSi (ws' := (pO G ad p_ad ++ [])) (As := [.int v2_, .int x2]) (rest := []) C hw hl.1 kX0_homeOf ml_X3_89 (c_X0_homeOf l G _ v2_ x2 u3 e3) CutX.none ⟨rfl, rfl⟩ ⟨Nat.le_of_ble_eq_true rfl, Nat.le_of_ble_eq_true rfl⟩ rfl ⟨Nat.zero_le _, Nat.zero_le _⟩ rfl (Nat.le_of_ble_eq_true rfl) dX3_pagesAtHome_31 (fun H locs hw => ?_)
        refine r_iload0 C hl 1 rfl dX3_pagesAtHome_34 ?_
        refine lv_icmp_ne (tgt := 41) C.1 C.2.1 dX3_pagesAtHome_35 (by decide) (fun hc => ?_) (fun hc => ?_)
        · replace hf := ifn hf hc
          refine r_iinc C hl 4 (v4 + 1) [(4, .int (v4 + 1)), (0, .ref (ad 99)), (1, .int x1), (2, .int x2), (3, .int v3)] rfl (iinc_e (by decide)) (by decide) rfl dX3_pagesAtHome_41 (fun ls hl => ?_)
          refine lv_goto (tgt := 5) C.1 C.2.1 dX3_pagesAtHome_44 (by decide) ?_
          exact hk5 v3 (v4 + 1) hf _ _ hw _ (lv_sub hl [1, 2, 3, 4, 0] rfl)
        · replace hf := ifp hf hc
          refine r_iinc C hl 3 (v3 + 1) [(3, .int (v3 + 1)), (0, .ref (ad 99)), (1, .int x1), (2, .int x2), (4, .int v4)] rfl (iinc_e (by decide)) (by decide) rfl dX3_pagesAtHome_38 (fun ls hl => ?_)
          refine r_iinc C hl 4 (v4 + 1) [(4, .int (v4 + 1)), (3, .int (v3 + 1)), (0, .ref (ad 99)), (1, .int x1), (2, .int x2)] rfl (iinc_e (by decide)) (by decide) rfl dX3_pagesAtHome_41 (fun ls hl => ?_)
          refine lv_goto (tgt := 5) C.1 C.2.1 dX3_pagesAtHome_44 (by decide) ?_
          exact hk5 (v3 + 1) (v4 + 1) hf _ _ hw _ (lv_sub hl [2, 3, 4, 1, 0] rfl)
  have hL_5 : ∀ n : Nat, ∀ (v3 : Int32) (v4 : Int32), L_X3_pagesAtHome_5 p_ad x1 x2  n v3 v4 = some out → ∀ (H : Heap) (locs : List Loc), Wd G A s H locs (pO G ad p_ad ++ []) → ∀ ls : Array Slot, lv_has ls 5 [(0, .ref (ad 99)), (1, .int x1), (2, .int x2), (3, .int v3), (4, .int v4)] → W p l e ({ frames := 1, cells := 0, slots := 0, locals := 21 }) s m [.ref (ad 99), .int x1, .int x2].toArray below meth c H locs 0 0 (MQ below (Ans G out A (pO G ad p_ad ++ [])) [.ref (ad 99), .int x1, .int x2].toArray s 0 0 A) (F0 m 5 ls []) := by
    intro  n
    induction n with
    | zero => intro v3 v4 hf; cases hf
    | succ n ih => exact hB_5 _ ih
  unfold f_X3_pagesAtHome at hf
  refine lv_iconst (v := 0) C.1 C.2.1 dX3_pagesAtHome_0 (by decide) ?_
  refine r_istore0 C hl [(3, .int 0), (0, .ref (ad 99)), (1, .int x1), (2, .int x2)] (by decide) rfl dX3_pagesAtHome_1 (fun ls hl => ?_)
  refine lv_iconst (v := 0) C.1 C.2.1 dX3_pagesAtHome_2 (by decide) ?_
  refine r_istore C hl [(4, .int 0), (3, .int 0), (0, .ref (ad 99)), (1, .int x1), (2, .int x2)] (by decide) rfl dX3_pagesAtHome_3 (fun ls hl => ?_)
  exact hL_5  FU 0 0 hf _ _ hw _ (lv_sub hl [2, 3, 4, 1, 0] rfl)
set_option maxHeartbeats 4000000 in
set_option maxRecDepth 100000 in
theorem c_X3_isPage (l : Launch) (G : GG)  (sz : Nat)  (x0 : Int32) (out : Int32) (hf : f_X3_isPage x0 = some out) : Met l yX3_isPage (.code yX3_isPage cX3_isPage 1 (some .boolean) :: BT) ({ frames := 0, cells := 0, slots := 0, locals := 0 }) (va_Pc [.int x0] (PreW G sz [])) (Ans G out (va_A [] sz) []) 0 0 (va_A [] sz) := by
  refine Met.into (by decide) (Nat.le_of_ble_eq_true rfl) ?_
  intro p e s m below meth c C hsz ls hl hw
  have hl : lv_has ls 1 [(0, .int x0)] := hl
  clear hsz
  generalize va_A [] sz = A at hw ⊢
  unfold f_X3_isPage at hf
  refine r_iload0 C hl 0 rfl dX3_isPage_0 ?_
  refine lv_if_lt (tgt := 14) C.1 C.2.1 dX3_isPage_1 (by decide) (fun hc => ?_) (fun hc => ?_)
  · replace hf := ifp hf hc
    refine lv_iconst (v := 0) C.1 C.2.1 dX3_isPage_14 (by decide) ?_
    exact fin_z C hw (by decide) (Option.some.inj hf) (fun o => o) (fun o => []) rfl rfl dX3_isPage_15
  · replace hf := ifn hf hc
    refine r_iload0 C hl 0 rfl dX3_isPage_4 ?_
    refine lv_bipush (v := 30) C.1 C.2.1 dX3_isPage_5 (by decide) ?_
    refine lv_icmp_ge (tgt := 14) C.1 C.2.1 dX3_isPage_7 (by decide) (fun hc => ?_) (fun hc => ?_)
    · replace hf := ifp hf hc
      refine lv_iconst (v := 0) C.1 C.2.1 dX3_isPage_14 (by decide) ?_
      exact fin_z C hw (by decide) (Option.some.inj hf) (fun o => o) (fun o => []) rfl rfl dX3_isPage_15
    · replace hf := ifn hf hc
      refine lv_iconst (v := 1) C.1 C.2.1 dX3_isPage_10 (by decide) ?_
      refine lv_goto (tgt := 15) C.1 C.2.1 dX3_isPage_11 (by decide) ?_
      exact fin_z C hw (by decide) (Option.some.inj hf) (fun o => o) (fun o => []) rfl rfl dX3_isPage_15
set_option maxHeartbeats 4000000 in
set_option maxRecDepth 100000 in
theorem c_X3_likeCells (l : Launch) (G : GG) (ad : Nat → Nat) (sz : Nat) (p_ad : Pic) (x1 x2 : Int32) (out : Int32) (hf : f_X3_likeCells p_ad x1 x2 = some out) : Met l yX3_likeCells (.code yX3_likeCells cX3_likeCells 4 (some .boolean) :: BT) ({ frames := 1, cells := 0, slots := 0, locals := 20 }) (va_Pc [.ref (ad 99), .int x1, .int x2] (PreW G sz (pO G ad p_ad ++ []))) (Ans G out (va_A (pO G ad p_ad ++ []) sz) (pO G ad p_ad ++ [])) 0 0 (va_A (pO G ad p_ad ++ []) sz) := by
  refine Met.into (by decide) (Nat.le_of_ble_eq_true rfl) ?_
  intro p e s m below meth c C hsz ls hl hw
  have hl : lv_has ls 4 [(0, .ref (ad 99)), (1, .int x1), (2, .int x2)] := hl
  clear hsz
  generalize va_A (pO G ad p_ad ++ []) sz = A at hw ⊢
  have hB_18 : ∀ (k18 : Int32 → Option (Int32)) (hk18 : ∀ (v3 : Int32), k18 v3 = some out → ∀ (H : Heap) (locs : List Loc), Wd G A s H locs (pO G ad p_ad ++ []) → ∀ ls : Array Slot, lv_has ls 4 [(0, .ref (ad 99)), (1, .int x1), (2, .int x2), (3, .int v3)] → W p l e ({ frames := 1, cells := 0, slots := 0, locals := 20 }) s m [.ref (ad 99), .int x1, .int x2].toArray below meth c H locs 0 0 (MQ below (Ans G out A (pO G ad p_ad ++ [])) [.ref (ad 99), .int x1, .int x2].toArray s 0 0 A) (F0 m 18 ls [])), ∀ (v3 : Int32), b_X3_likeCells_18 p_ad x1 x2 k18 v3 = some out → ∀ (H : Heap) (locs : List Loc), Wd G A s H locs (pO G ad p_ad ++ []) → ∀ ls : Array Slot, lv_has ls 4 [(0, .ref (ad 99)), (1, .int x1), (2, .int x2), (3, .int v3)] → W p l e ({ frames := 1, cells := 0, slots := 0, locals := 20 }) s m [.ref (ad 99), .int x1, .int x2].toArray below meth c H locs 0 0 (MQ below (Ans G out A (pO G ad p_ad ++ [])) [.ref (ad 99), .int x1, .int x2].toArray s 0 0 A) (F0 m 18 ls []) := by
    intro k18 hk18 v3 hf H locs hw ls hl
    unfold b_X3_likeCells_18 at hf
    refine r_iload0 C hl 3 rfl dX3_likeCells_18 ?_
    refine lv_bipush (v := 16) C.1 C.2.1 dX3_likeCells_19 (by decide) ?_
    refine lv_icmp_ge (tgt := 57) C.1 C.2.1 dX3_likeCells_21 (by decide) (fun hc => ?_) (fun hc => ?_)
    · replace hf := ifp hf hc
      refine lv_iconst (v := 1) C.1 C.2.1 dX3_likeCells_57 (by decide) ?_
      exact fin_z C hw (by decide) (Option.some.inj hf) (fun o => o) (fun o => (pO G ad p_ad ++ [])) rfl rfl dX3_likeCells_58
    · replace hf := ifn hf hc
      refine r_aload0 C hl 0 rfl dX3_likeCells_24 ?_
      refine r_get C hw _ (gx_h pO_o) 9 fl_X3_44 rfl dX3_likeCells_25 ?_
      refine r_iload0 C hl 1 rfl dX3_likeCells_28 ?_
      refine lv_bipush (v := 16) C.1 C.2.1 dX3_likeCells_29 (by decide) ?_
      refine lv_imul C.1 C.2.1 dX3_likeCells_31 ?_
      refine r_iload0 C hl 3 rfl dX3_likeCells_32 ?_
      refine lv_iadd C.1 C.2.1 dX3_likeCells_33 ?_
      obtain ⟨v3_, e3, hf⟩ := bx hf
      refine r_iald C hw _ (gx_h pO_g9) e3 dX3_likeCells_34 ?_
      refine r_aload0 C hl 0 rfl dX3_likeCells_35 ?_
      refine r_get C hw _ (gx_h pO_o) 9 fl_X3_44 rfl dX3_likeCells_36 ?_
      refine r_iload0 C hl 2 rfl dX3_likeCells_39 ?_
      refine lv_bipush (v := 16) C.1 C.2.1 dX3_likeCells_40 (by decide) ?_
      refine lv_imul C.1 C.2.1 dX3_likeCells_42 ?_
      refine r_iload0 C hl 3 rfl dX3_likeCells_43 ?_
      refine lv_iadd C.1 C.2.1 dX3_likeCells_44 ?_
      obtain ⟨v4_, e4, hf⟩ := bx hf
      refine r_iald C hw _ (gx_h pO_g9) e4 dX3_likeCells_45 ?_
      refine lv_icmp_eq (tgt := 51) C.1 C.2.1 dX3_likeCells_46 (by decide) (fun hc => ?_) (fun hc => ?_)
      · replace hf := ifp hf hc
        refine r_iinc C hl 3 (v3 + 1) [(3, .int (v3 + 1)), (0, .ref (ad 99)), (1, .int x1), (2, .int x2)] rfl (iinc_e (by decide)) (by decide) rfl dX3_likeCells_51 (fun ls hl => ?_)
        refine lv_goto (tgt := 18) C.1 C.2.1 dX3_likeCells_54 (by decide) ?_
        exact hk18 (v3 + 1) hf _ _ hw _ (lv_sub hl [1, 2, 3, 0] rfl)
      · replace hf := ifn hf hc
        refine lv_iconst (v := 0) C.1 C.2.1 dX3_likeCells_49 (by decide) ?_
        exact fin_z C hw (by decide) (Option.some.inj hf) (fun o => o) (fun o => (pO G ad p_ad ++ [])) rfl rfl dX3_likeCells_50
  have hL_18 : ∀ n : Nat, ∀ (v3 : Int32), L_X3_likeCells_18 p_ad x1 x2  n v3 = some out → ∀ (H : Heap) (locs : List Loc), Wd G A s H locs (pO G ad p_ad ++ []) → ∀ ls : Array Slot, lv_has ls 4 [(0, .ref (ad 99)), (1, .int x1), (2, .int x2), (3, .int v3)] → W p l e ({ frames := 1, cells := 0, slots := 0, locals := 20 }) s m [.ref (ad 99), .int x1, .int x2].toArray below meth c H locs 0 0 (MQ below (Ans G out A (pO G ad p_ad ++ [])) [.ref (ad 99), .int x1, .int x2].toArray s 0 0 A) (F0 m 18 ls []) := by
    intro  n
    induction n with
    | zero => intro v3 hf; cases hf
    | succ n ih => exact hB_18 _ ih
  unfold f_X3_likeCells at hf
  refine r_iload0 C hl 1 rfl dX3_likeCells_0 ?_
  obtain ⟨u1, e1, hf⟩ := bx hf
  refine r_callSi (ws' := (pO G ad p_ad ++ [])) (As := [.int x1]) (rest := []) C hw hl.1 kX3_isPage ml_X3_81 (c_X3_isPage l G _ x1 u1 e1) CutX.none ⟨rfl, rfl⟩ ⟨Nat.le_of_ble_eq_true rfl, Nat.le_of_ble_eq_true rfl⟩ rfl ⟨Nat.zero_le _, Nat.zero_le _⟩ rfl (Nat.le_of_ble_eq_true rfl) dX3_likeCells_1 (fun H locs hw => ?_)
  refine lv_if_eq (tgt := 14) C.1 C.2.1 dX3_likeCells_4 (by decide) (fun hc => ?_) (fun hc => ?_)
  · replace hf := ifp hf hc
    refine lv_iconst (v := 0) C.1 C.2.1 dX3_likeCells_14 (by decide) ?_
    exact fin_z C hw (by decide) (Option.some.inj hf) (fun o => o) (fun o => (pO G ad p_ad ++ [])) rfl rfl dX3_likeCells_15
  · replace hf := ifn hf hc
    refine r_iload0 C hl 2 rfl dX3_likeCells_7 ?_
    obtain ⟨u2, e2, hf⟩ := bx hf
    refine r_callSi (ws' := (pO G ad p_ad ++ [])) (As := [.int x2]) (rest := []) C hw hl.1 kX3_isPage ml_X3_81 (c_X3_isPage l G _ x2 u2 e2) CutX.none ⟨rfl, rfl⟩ ⟨Nat.le_of_ble_eq_true rfl, Nat.le_of_ble_eq_true rfl⟩ rfl ⟨Nat.zero_le _, Nat.zero_le _⟩ rfl (Nat.le_of_ble_eq_true rfl) dX3_likeCells_8 (fun H locs hw => ?_)
    refine lv_if_ne (tgt := 16) C.1 C.2.1 dX3_likeCells_11 (by decide) (fun hc => ?_) (fun hc => ?_)
    · replace hf := ifn hf hc
      refine lv_iconst (v := 0) C.1 C.2.1 dX3_likeCells_16 (by decide) ?_
      refine r_istore0 C hl [(3, .int 0), (0, .ref (ad 99)), (1, .int x1), (2, .int x2)] (by decide) rfl dX3_likeCells_17 (fun ls hl => ?_)
      exact hL_18  FU 0 hf _ _ hw _ (lv_sub hl [1, 2, 3, 0] rfl)
    · replace hf := ifp hf hc
      refine lv_iconst (v := 0) C.1 C.2.1 dX3_likeCells_14 (by decide) ?_
      exact fin_z C hw (by decide) (Option.some.inj hf) (fun o => o) (fun o => (pO G ad p_ad ++ [])) rfl rfl dX3_likeCells_15
set_option maxHeartbeats 4000000 in
set_option maxRecDepth 100000 in
theorem c_X3_coldestLoose (l : Launch) (G : GG) (ad : Nat → Nat) (sz : Nat) (p_ad : Pic)  (out : Int32) (hf : f_X3_coldestLoose p_ad = some out) : Met l yX3_coldestLoose (.code yX3_coldestLoose cX3_coldestLoose 3 (some .int) :: BT) ({ frames := 1, cells := 0, slots := 0, locals := 20 }) (va_Pc [.ref (ad 99)] (PreW G sz (pO G ad p_ad ++ []))) (Ans G out (va_A (pO G ad p_ad ++ []) sz) (pO G ad p_ad ++ [])) 0 0 (va_A (pO G ad p_ad ++ []) sz) := by
  refine Met.into (by decide) (Nat.le_of_ble_eq_true rfl) ?_
  intro p e s m below meth c C hsz ls hl hw
  have hl : lv_has ls 3 [(0, .ref (ad 99))] := hl
  clear hsz
  generalize va_A (pO G ad p_ad ++ []) sz = A at hw ⊢
  have hB_2 : ∀ (k2 : Int32 → Option (Int32)) (hk2 : ∀ (v1 : Int32), k2 v1 = some out → ∀ (H : Heap) (locs : List Loc), Wd G A s H locs (pO G ad p_ad ++ []) → ∀ ls : Array Slot, lv_has ls 3 [(0, .ref (ad 99)), (1, .int v1)] → W p l e ({ frames := 1, cells := 0, slots := 0, locals := 20 }) s m [.ref (ad 99)].toArray below meth c H locs 0 0 (MQ below (Ans G out A (pO G ad p_ad ++ [])) [.ref (ad 99)].toArray s 0 0 A) (F0 m 2 ls [])), ∀ (v1 : Int32), b_X3_coldestLoose_2 p_ad k2 v1 = some out → ∀ (H : Heap) (locs : List Loc), Wd G A s H locs (pO G ad p_ad ++ []) → ∀ ls : Array Slot, lv_has ls 3 [(0, .ref (ad 99)), (1, .int v1)] → W p l e ({ frames := 1, cells := 0, slots := 0, locals := 20 }) s m [.ref (ad 99)].toArray below meth c H locs 0 0 (MQ below (Ans G out A (pO G ad p_ad ++ [])) [.ref (ad 99)].toArray s 0 0 A) (F0 m 2 ls []) := by
    intro k2 hk2 v1 hf H locs hw ls hl
    unfold b_X3_coldestLoose_2 at hf
    refine r_iload0 C hl 1 rfl dX3_coldestLoose_2 ?_
    refine r_aload0 C hl 0 rfl dX3_coldestLoose_3 ?_
    refine r_get C hw _ (gx_h pO_o) 11 fl_X3_65 rfl dX3_coldestLoose_4 ?_
    refine lv_icmp_ge (tgt := 47) C.1 C.2.1 dX3_coldestLoose_7 (by decide) (fun hc => ?_) (fun hc => ?_)
    · replace hf := ifp hf hc
      refine lv_iconst (v := (-1)) C.1 C.2.1 dX3_coldestLoose_47 (by decide) ?_
      exact fin_i C hw (Option.some.inj hf) (fun o => o) (fun o => (pO G ad p_ad ++ [])) rfl rfl dX3_coldestLoose_48
    · replace hf := ifn hf hc
      refine r_iload0 C hl 1 rfl dX3_coldestLoose_10 ?_
      refine lv_bipush (v := 30) C.1 C.2.1 dX3_coldestLoose_11 (by decide) ?_
      refine lv_icmp_ge (tgt := 47) C.1 C.2.1 dX3_coldestLoose_13 (by decide) (fun hc => ?_) (fun hc => ?_)
      · replace hf := ifp hf hc
        refine lv_iconst (v := (-1)) C.1 C.2.1 dX3_coldestLoose_47 (by decide) ?_
        exact fin_i C hw (Option.some.inj hf) (fun o => o) (fun o => (pO G ad p_ad ++ [])) rfl rfl dX3_coldestLoose_48
      · replace hf := ifn hf hc
        refine r_aload0 C hl 0 rfl dX3_coldestLoose_16 ?_
        refine r_get C hw _ (gx_h pO_o) 10 fl_X3_47 rfl dX3_coldestLoose_17 ?_
        refine r_iload0 C hl 1 rfl dX3_coldestLoose_20 ?_
        obtain ⟨v1_, e1, hf⟩ := bx hf
        refine r_iald C hw _ (gx_h pO_g10) e1 dX3_coldestLoose_21 ?_
        refine r_istore0 C hl [(2, .int v1_), (0, .ref (ad 99)), (1, .int v1)] (by decide) rfl dX3_coldestLoose_22 (fun ls hl => ?_)
        refine r_iload0 C hl 0 rfl dX3_coldestLoose_23 ?_
        obtain ⟨u2, e2, hf⟩ := bx hf
        refine r_callSi (ws' := (pO G ad p_ad ++ [])) (As := [.int v1_]) (rest := []) C hw hl.1 kX3_isPage ml_X3_81 (c_X3_isPage l G _ v1_ u2 e2) CutX.none ⟨rfl, rfl⟩ ⟨Nat.le_of_ble_eq_true rfl, Nat.le_of_ble_eq_true rfl⟩ rfl ⟨Nat.zero_le _, Nat.zero_le _⟩ rfl (Nat.le_of_ble_eq_true rfl) dX3_coldestLoose_24 (fun H locs hw => ?_)
        refine lv_if_eq (tgt := 41) C.1 C.2.1 dX3_coldestLoose_27 (by decide) (fun hc => ?_) (fun hc => ?_)
        · replace hf := ifp hf hc
          refine r_iinc C hl 2 (v1 + 1) [(1, .int (v1 + 1)), (2, .int v1_), (0, .ref (ad 99))] rfl (iinc_e (by decide)) (by decide) rfl dX3_coldestLoose_41 (fun ls hl => ?_)
          refine lv_goto (tgt := 2) C.1 C.2.1 dX3_coldestLoose_44 (by decide) ?_
          exact hk2 (v1 + 1) hf _ _ hw _ (lv_sub hl [2, 0] rfl)
        · replace hf := ifn hf hc
          refine r_aload0 C hl 1 rfl dX3_coldestLoose_30 ?_
          refine r_get C hw _ (gx_h pO_o) 8 fl_X3_41 rfl dX3_coldestLoose_31 ?_
          refine r_iload0 C hl 0 rfl dX3_coldestLoose_34 ?_
          obtain ⟨v3_, e3, hf⟩ := bx hf
          refine r_iald C hw _ (gx_h pO_g8) e3 dX3_coldestLoose_35 ?_
          refine lv_if_ne (tgt := 41) C.1 C.2.1 dX3_coldestLoose_36 (by decide) (fun hc => ?_) (fun hc => ?_)
          · replace hf := ifn hf hc
            refine r_iinc C hl 2 (v1 + 1) [(1, .int (v1 + 1)), (2, .int v1_), (0, .ref (ad 99))] rfl (iinc_e (by decide)) (by decide) rfl dX3_coldestLoose_41 (fun ls hl => ?_)
            refine lv_goto (tgt := 2) C.1 C.2.1 dX3_coldestLoose_44 (by decide) ?_
            exact hk2 (v1 + 1) hf _ _ hw _ (lv_sub hl [2, 0] rfl)
          · replace hf := ifp hf hc
            refine r_iload0 C hl 0 rfl dX3_coldestLoose_39 ?_
            exact fin_i C hw (Option.some.inj hf) (fun o => o) (fun o => (pO G ad p_ad ++ [])) rfl rfl dX3_coldestLoose_40
  have hL_2 : ∀ n : Nat, ∀ (v1 : Int32), L_X3_coldestLoose_2 p_ad  n v1 = some out → ∀ (H : Heap) (locs : List Loc), Wd G A s H locs (pO G ad p_ad ++ []) → ∀ ls : Array Slot, lv_has ls 3 [(0, .ref (ad 99)), (1, .int v1)] → W p l e ({ frames := 1, cells := 0, slots := 0, locals := 20 }) s m [.ref (ad 99)].toArray below meth c H locs 0 0 (MQ below (Ans G out A (pO G ad p_ad ++ [])) [.ref (ad 99)].toArray s 0 0 A) (F0 m 2 ls []) := by
    intro  n
    induction n with
    | zero => intro v1 hf; cases hf
    | succ n ih => exact hB_2 _ ih
  unfold f_X3_coldestLoose at hf
  refine lv_iconst (v := 0) C.1 C.2.1 dX3_coldestLoose_0 (by decide) ?_
  refine r_istore0 C hl [(1, .int 0), (0, .ref (ad 99))] (by decide) rfl dX3_coldestLoose_1 (fun ls hl => ?_)
  exact hL_2  FU 0 hf _ _ hw _ (lv_sub hl [1, 0] rfl)
set_option maxHeartbeats 4000000 in
set_option maxRecDepth 100000 in
theorem c_X3_framesBy (l : Launch) (G : GG) (ad : Nat → Nat) (sz : Nat) (p_ad : Pic) (x1 : Int32) (out : Int32) (hf : f_X3_framesBy p_ad x1 = some out) : Met l yX3_framesBy (.code yX3_framesBy cX3_framesBy 5 (some .int) :: BT) ({ frames := 2, cells := 0, slots := 0, locals := 45 }) (va_Pc [.ref (ad 99), .int x1] (PreW G sz (pO G ad p_ad ++ []))) (Ans G out (va_A (pO G ad p_ad ++ []) sz) (pO G ad p_ad ++ [])) 0 0 (va_A (pO G ad p_ad ++ []) sz) := by
  refine Met.into (by decide) (Nat.le_of_ble_eq_true rfl) ?_
  intro p e s m below meth c C hsz ls hl hw
  have hl : lv_has ls 5 [(0, .ref (ad 99)), (1, .int x1)] := hl
  clear hsz
  generalize va_A (pO G ad p_ad ++ []) sz = A at hw ⊢
  have hB_4 : ∀ (k4 : Int32 → Int32 → Option (Int32)) (hk4 : ∀ (v2 : Int32) (v3 : Int32), k4 v2 v3 = some out → ∀ (H : Heap) (locs : List Loc), Wd G A s H locs (pO G ad p_ad ++ []) → ∀ ls : Array Slot, lv_has ls 5 [(0, .ref (ad 99)), (1, .int x1), (2, .int v2), (3, .int v3)] → W p l e ({ frames := 2, cells := 0, slots := 0, locals := 45 }) s m [.ref (ad 99), .int x1].toArray below meth c H locs 0 0 (MQ below (Ans G out A (pO G ad p_ad ++ [])) [.ref (ad 99), .int x1].toArray s 0 0 A) (F0 m 4 ls [])), ∀ (v2 : Int32) (v3 : Int32), b_X3_framesBy_4 p_ad x1 k4 v2 v3 = some out → ∀ (H : Heap) (locs : List Loc), Wd G A s H locs (pO G ad p_ad ++ []) → ∀ ls : Array Slot, lv_has ls 5 [(0, .ref (ad 99)), (1, .int x1), (2, .int v2), (3, .int v3)] → W p l e ({ frames := 2, cells := 0, slots := 0, locals := 45 }) s m [.ref (ad 99), .int x1].toArray below meth c H locs 0 0 (MQ below (Ans G out A (pO G ad p_ad ++ [])) [.ref (ad 99), .int x1].toArray s 0 0 A) (F0 m 4 ls []) := by
    intro k4 hk4 v2 v3 hf H locs hw ls hl
    unfold b_X3_framesBy_4 at hf
    refine r_iload0 C hl 3 rfl dX3_framesBy_4 ?_
    refine lv_bipush (v := 16) C.1 C.2.1 dX3_framesBy_5 (by decide) ?_
    refine lv_icmp_gt (tgt := 49) C.1 C.2.1 dX3_framesBy_7 (by decide) (fun hc => ?_) (fun hc => ?_)
    · replace hf := ifp hf hc
      refine r_iload0 C hl 2 rfl dX3_framesBy_49 ?_
      exact fin_i C hw (Option.some.inj hf) (fun o => o) (fun o => (pO G ad p_ad ++ [])) rfl rfl dX3_framesBy_50
    · replace hf := ifn hf hc
      refine r_iload0 C hl 3 rfl dX3_framesBy_10 ?_
      obtain ⟨u1, e1, hf⟩ := bx hf
      refine r_callSi (ws' := (pO G ad p_ad ++ [])) (As := [.int v3]) (rest := []) C hw hl.1 kX0_slotsOf ml_X3_108 (c_X0_slotsOf l G _ v3 u1 e1) CutX.none ⟨rfl, rfl⟩ ⟨Nat.le_of_ble_eq_true rfl, Nat.le_of_ble_eq_true rfl⟩ rfl ⟨Nat.zero_le _, Nat.zero_le _⟩ rfl (Nat.le_of_ble_eq_true rfl) dX3_framesBy_11 (fun H locs hw => ?_)
      refine r_istore C hl [(4, .int u1), (0, .ref (ad 99)), (1, .int x1), (2, .int v2), (3, .int v3)] (by decide) rfl dX3_framesBy_14 (fun ls hl => ?_)
      refine r_iload C hl 0 rfl dX3_framesBy_16 ?_
      refine lv_if_le (tgt := 43) C.1 C.2.1 dX3_framesBy_18 (by decide) (fun hc => ?_) (fun hc => ?_)
      · replace hf := ifp hf hc
        refine r_iinc C hl 4 (v3 + 1) [(3, .int (v3 + 1)), (4, .int u1), (0, .ref (ad 99)), (1, .int x1), (2, .int v2)] rfl (iinc_e (by decide)) (by decide) rfl dX3_framesBy_43 (fun ls hl => ?_)
        refine lv_goto (tgt := 4) C.1 C.2.1 dX3_framesBy_46 (by decide) ?_
        exact hk4 v2 (v3 + 1) hf _ _ hw _ (lv_sub hl [2, 3, 4, 0] rfl)
      · replace hf := ifn hf hc
        refine r_iload0 C hl 3 rfl dX3_framesBy_21 ?_
        refine r_aload0 C hl 1 rfl dX3_framesBy_22 ?_
        refine r_iload0 C hl 4 rfl dX3_framesBy_23 ?_
        refine r_iload0 C hl 2 rfl dX3_framesBy_24 ?_
        obtain ⟨u2, e2, hf⟩ := bx hf
        refine r_callVi (ws' := (pO G ad p_ad ++ [])) (As := [.int v3, .int x1]) (rest := [.int v2]) C hw hl.1 kX3_pagesAtHome ml_X3_111 (c_X3_pagesAtHome l G ad _ p_ad v3 x1 u2 e2) (CutX.take pO_f CutX.none) _ (gx_h pO_o) rfl ⟨rfl, rfl⟩ ⟨Nat.le_of_ble_eq_true rfl, Nat.le_of_ble_eq_true rfl⟩ rfl ⟨Nat.zero_le _, Nat.zero_le _⟩ rfl (Nat.le_of_ble_eq_true rfl) dX3_framesBy_25 (fun H locs hw => ?_)
        refine r_iload C hl 0 rfl dX3_framesBy_28 ?_
        refine lv_iadd C.1 C.2.1 dX3_framesBy_30 ?_
        refine lv_iconst (v := 1) C.1 C.2.1 dX3_framesBy_31 (by decide) ?_
        refine lv_isub C.1 C.2.1 dX3_framesBy_32 ?_
        refine r_iload C hl 0 rfl dX3_framesBy_33 ?_
        obtain ⟨v3_, e3, hf⟩ := bx hf
        refine r_idiv C e3 dX3_framesBy_35 ?_
        refine r_iload0 C hl 4 rfl dX3_framesBy_36 ?_
        obtain ⟨u4, e4, hf⟩ := bx hf
        refine r_callSi (ws' := (pO G ad p_ad ++ [])) (As := [.int v3]) (rest := [.int v3_, .int v2]) C hw hl.1 kX0_framesOf ml_X3_105 (c_X0_framesOf l G _ v3 u4 e4) CutX.none ⟨rfl, rfl⟩ ⟨Nat.le_of_ble_eq_true rfl, Nat.le_of_ble_eq_true rfl⟩ rfl ⟨Nat.zero_le _, Nat.zero_le _⟩ rfl (Nat.le_of_ble_eq_true rfl) dX3_framesBy_37 (fun H locs hw => ?_)
        refine lv_imul C.1 C.2.1 dX3_framesBy_40 ?_
        refine lv_iadd C.1 C.2.1 dX3_framesBy_41 ?_
        refine r_istore0 C hl [(2, .int (v2 + (v3_ * u4))), (4, .int u1), (0, .ref (ad 99)), (1, .int x1), (3, .int v3)] (by decide) rfl dX3_framesBy_42 (fun ls hl => ?_)
        refine r_iinc C hl 4 (v3 + 1) [(3, .int (v3 + 1)), (2, .int (v2 + (v3_ * u4))), (4, .int u1), (0, .ref (ad 99)), (1, .int x1)] rfl (iinc_e (by decide)) (by decide) rfl dX3_framesBy_43 (fun ls hl => ?_)
        refine lv_goto (tgt := 4) C.1 C.2.1 dX3_framesBy_46 (by decide) ?_
        exact hk4 (v2 + (v3_ * u4)) (v3 + 1) hf _ _ hw _ (lv_sub hl [3, 4, 1, 0] rfl)
  have hL_4 : ∀ n : Nat, ∀ (v2 : Int32) (v3 : Int32), L_X3_framesBy_4 p_ad x1  n v2 v3 = some out → ∀ (H : Heap) (locs : List Loc), Wd G A s H locs (pO G ad p_ad ++ []) → ∀ ls : Array Slot, lv_has ls 5 [(0, .ref (ad 99)), (1, .int x1), (2, .int v2), (3, .int v3)] → W p l e ({ frames := 2, cells := 0, slots := 0, locals := 45 }) s m [.ref (ad 99), .int x1].toArray below meth c H locs 0 0 (MQ below (Ans G out A (pO G ad p_ad ++ [])) [.ref (ad 99), .int x1].toArray s 0 0 A) (F0 m 4 ls []) := by
    intro  n
    induction n with
    | zero => intro v2 v3 hf; cases hf
    | succ n ih => exact hB_4 _ ih
  unfold f_X3_framesBy at hf
  refine lv_iconst (v := 0) C.1 C.2.1 dX3_framesBy_0 (by decide) ?_
  refine r_istore0 C hl [(2, .int 0), (0, .ref (ad 99)), (1, .int x1)] (by decide) rfl dX3_framesBy_1 (fun ls hl => ?_)
  refine lv_iconst (v := 1) C.1 C.2.1 dX3_framesBy_2 (by decide) ?_
  refine r_istore0 C hl [(3, .int 1), (2, .int 0), (0, .ref (ad 99)), (1, .int x1)] (by decide) rfl dX3_framesBy_3 (fun ls hl => ?_)
  exact hL_4  FU 0 1 hf _ _ hw _ (lv_sub hl [2, 3, 1, 0] rfl)
set_option maxHeartbeats 4000000 in
set_option maxRecDepth 100000 in
theorem c_X3_loadPage (l : Launch) (G : GG) (ad : Nat → Nat) (sz : Nat) (p_ad : Pic) (x1 : Int32) (out : Pic) (hf : f_X3_loadPage p_ad x1 = some out) : Met l yX3_loadPage (.code yX3_loadPage cX3_loadPage 2 none :: BT) ({ frames := 1, cells := 0, slots := 0, locals := 23 }) (va_Pc [.ref (ad 99), .int x1] (PreW G sz (pO G ad p_ad ++ []))) (Don G (va_A (pO G ad p_ad ++ []) sz) (pO G ad out ++ [])) 0 0 (va_A (pO G ad p_ad ++ []) sz) := by
  refine Met.into (by decide) (Nat.le_of_ble_eq_true rfl) ?_
  intro p e s m below meth c C hsz ls hl hw
  have hl : lv_has ls 2 [(0, .ref (ad 99)), (1, .int x1)] := hl
  clear hsz
  generalize va_A (pO G ad p_ad ++ []) sz = A at hw ⊢
  unfold f_X3_loadPage at hf
  refine r_iload0 C hl 1 rfl dX3_loadPage_0 ?_
  obtain ⟨u1, e1, hf⟩ := bx hf
  refine r_callSi (ws' := (pO G ad p_ad ++ [])) (As := [.int x1]) (rest := []) C hw hl.1 kX3_isPage ml_X3_81 (c_X3_isPage l G _ x1 u1 e1) CutX.none ⟨rfl, rfl⟩ ⟨Nat.le_of_ble_eq_true rfl, Nat.le_of_ble_eq_true rfl⟩ rfl ⟨Nat.zero_le _, Nat.zero_le _⟩ rfl (Nat.le_of_ble_eq_true rfl) dX3_loadPage_1 (fun H locs hw => ?_)
  refine lv_if_ne (tgt := 8) C.1 C.2.1 dX3_loadPage_4 (by decide) (fun hc => ?_) (fun hc => ?_)
  · replace hf := ifn hf hc
    refine r_aload0 C hl 0 rfl dX3_loadPage_8 ?_
    refine r_get C hw _ (gx_h pO_o) 4 fl_X3_28 rfl dX3_loadPage_9 ?_
    refine r_iload0 C hl 1 rfl dX3_loadPage_12 ?_
    obtain ⟨v2_, e2, hf⟩ := bx hf
    refine r_iald C hw _ (gx_h pO_g4) e2 dX3_loadPage_13 ?_
    refine lv_iconst (v := 2) C.1 C.2.1 dX3_loadPage_14 (by decide) ?_
    refine lv_icmp_ne (tgt := 31) C.1 C.2.1 dX3_loadPage_15 (by decide) (fun hc => ?_) (fun hc => ?_)
    · replace hf := ifn hf hc
      refine r_aload0 C hl 0 rfl dX3_loadPage_31 ?_
      refine r_get C hw _ (gx_h pO_o) 4 fl_X3_28 rfl dX3_loadPage_32 ?_
      refine r_iload0 C hl 1 rfl dX3_loadPage_35 ?_
      obtain ⟨v3_, e3, hf⟩ := bx hf
      refine r_iald C hw _ (gx_h pO_g4) e3 dX3_loadPage_36 ?_
      refine lv_iconst (v := 3) C.1 C.2.1 dX3_loadPage_37 (by decide) ?_
      refine lv_icmp_ne (tgt := 51) C.1 C.2.1 dX3_loadPage_38 (by decide) (fun hc => ?_) (fun hc => ?_)
      · replace hf := ifn hf hc
        exact fin_v C hw (Option.some.inj hf) (fun o => (pO G ad o ++ [])) rfl dX3_loadPage_51
      · replace hf := ifp hf hc
        refine r_aload0 C hl 0 rfl dX3_loadPage_41 ?_
        refine r_get C hw _ (gx_h pO_o) 12 fl_X3_50 rfl dX3_loadPage_42 ?_
        refine lv_iconst (v := 2) C.1 C.2.1 dX3_loadPage_45 (by decide) ?_
        refine lv_dup2_11 C.1 C.2.1 dX3_loadPage_46 rfl rfl ?_
        obtain ⟨v4_, e4, hf⟩ := bx hf
        refine r_iald C hw _ (gx_h pO_g12) e4 dX3_loadPage_47 ?_
        refine lv_iconst (v := 1) C.1 C.2.1 dX3_loadPage_48 (by decide) ?_
        refine lv_iadd C.1 C.2.1 dX3_loadPage_49 ?_
        obtain ⟨p_ad5, e5, hf⟩ := bx hf
        refine r_iast C hw _ (gx_h pO_g12) e5 (pO G ad p_ad5 ++ []) (fun h => (sx_h pO_g12 (pO_s12 h))) dX3_loadPage_50 (fun H locs hw => ?_)
        exact fin_v C hw (Option.some.inj hf) (fun o => (pO G ad o ++ [])) rfl dX3_loadPage_51
    · replace hf := ifp hf hc
      refine r_aload0 C hl 0 rfl dX3_loadPage_18 ?_
      refine r_iload0 C hl 1 rfl dX3_loadPage_19 ?_
      obtain ⟨u6, e6, hf⟩ := bx hf
      refine r_callVv (ws' := (pO G ad u6 ++ [])) (As := [.int x1]) (rest := []) C hw hl.1 kX3_leaveAges ml_X3_129 (c_X3_leaveAges l G ad _ p_ad x1 u6 e6) (CutX.take pO_f CutX.none) _ (gx_h pO_o) rfl ⟨rfl, rfl⟩ ⟨Nat.le_of_ble_eq_true rfl, Nat.le_of_ble_eq_true rfl⟩ rfl ⟨Nat.zero_le _, Nat.zero_le _⟩ rfl (Nat.le_of_ble_eq_true rfl) dX3_loadPage_20 (fun H locs hw => ?_)
      refine r_aload0 C hl 0 rfl dX3_loadPage_23 ?_
      refine r_iload0 C hl 1 rfl dX3_loadPage_24 ?_
      obtain ⟨u7, e7, hf⟩ := bx hf
      refine r_callVv (ws' := (pO G ad u7 ++ [])) (As := [.int x1]) (rest := []) C hw hl.1 kX3_addYoungest ml_X3_132 (c_X3_addYoungest l G ad _ u6 x1 u7 e7) (CutX.take pO_f CutX.none) _ (gx_h pO_o) rfl ⟨rfl, rfl⟩ ⟨Nat.le_of_ble_eq_true rfl, Nat.le_of_ble_eq_true rfl⟩ rfl ⟨Nat.zero_le _, Nat.zero_le _⟩ rfl (Nat.le_of_ble_eq_true rfl) dX3_loadPage_25 (fun H locs hw => ?_)
      refine lv_goto (tgt := 51) C.1 C.2.1 dX3_loadPage_28 (by decide) ?_
      exact fin_v C hw (Option.some.inj hf) (fun o => (pO G ad o ++ [])) rfl dX3_loadPage_51
  · replace hf := ifp hf hc
    exact fin_v C hw (Option.some.inj hf) (fun o => (pO G ad o ++ [])) rfl dX3_loadPage_7
set_option maxHeartbeats 4000000 in
set_option maxRecDepth 100000 in
theorem c_X3_compactClass (l : Launch) (G : GG) (ad : Nat → Nat) (sz : Nat) (p_ad : Pic) (z_ad : Pic) (x1 : Int32) (out : Pic × Pic) (hf : f_X3_compactClass p_ad z_ad x1 = some out) : Met l yX3_compactClass (.code yX3_compactClass cX3_compactClass 6 none :: BT) ({ frames := 3, cells := 0, slots := 0, locals := 66 }) (va_Pc [.ref (ad 99), .int x1] (PreW G sz (pO G ad p_ad ++ (zO G ad z_ad ++ [])))) (Don G (va_A (pO G ad p_ad ++ (zO G ad z_ad ++ [])) sz) (pO G ad out.1 ++ (zO G ad out.2 ++ []))) 0 0 (va_A (pO G ad p_ad ++ (zO G ad z_ad ++ [])) sz) := by
  refine Met.into (by decide) (Nat.le_of_ble_eq_true rfl) ?_
  intro p e s m below meth c C hsz ls hl hw
  have hl : lv_has ls 6 [(0, .ref (ad 99)), (1, .int x1)] := hl
  clear hsz
  generalize va_A (pO G ad p_ad ++ (zO G ad z_ad ++ [])) sz = A at hw ⊢
  have hB_50 : ∀ (k2 : Pic → Pic → Int32 → Option (Pic × Pic)) (hk2 : ∀ (p_ad : Pic) (z_ad : Pic) (v2 : Int32), k2 p_ad z_ad v2 = some out → ∀ (H : Heap) (locs : List Loc), Wd G A s H locs (pO G ad p_ad ++ (zO G ad z_ad ++ [])) → ∀ ls : Array Slot, lv_has ls 6 [(0, .ref (ad 99)), (1, .int x1), (2, .int v2)] → W p l e ({ frames := 3, cells := 0, slots := 0, locals := 66 }) s m [.ref (ad 99), .int x1].toArray below meth c H locs 0 0 (MQ below (Don G A (pO G ad out.1 ++ (zO G ad out.2 ++ []))) [.ref (ad 99), .int x1].toArray s 0 0 A) (F0 m 2 ls [])), ∀ (p_ad : Pic) (z_ad : Pic) (v2 : Int32) (v4 : Int32) (t0 : Int32), b_X3_compactClass_50 x1 k2 p_ad z_ad v2 v4 t0 = some out → ∀ (H : Heap) (locs : List Loc), Wd G A s H locs (pO G ad p_ad ++ (zO G ad z_ad ++ [])) → ∀ ls : Array Slot, lv_has ls 6 [(0, .ref (ad 99)), (1, .int x1), (2, .int v2), (4, .int v4)] → W p l e ({ frames := 3, cells := 0, slots := 0, locals := 66 }) s m [.ref (ad 99), .int x1].toArray below meth c H locs 0 0 (MQ below (Don G A (pO G ad out.1 ++ (zO G ad out.2 ++ []))) [.ref (ad 99), .int x1].toArray s 0 0 A) (F0 m 50 ls [.int t0]) := by
    intro k2 hk2 p_ad z_ad v2 v4 t0 hf H locs hw ls hl
    unfold b_X3_compactClass_50 at hf
    refine r_istore C hl [(5, .int t0), (0, .ref (ad 99)), (1, .int x1), (2, .int v2), (4, .int v4)] (by decide) rfl dX3_compactClass_50 (fun ls hl => ?_)
    refine r_iload C hl 0 rfl dX3_compactClass_52 ?_
    obtain ⟨u3, e3, hf⟩ := bx hf
    refine r_callSi (ws' := (pO G ad p_ad ++ (zO G ad z_ad ++ []))) (As := [.int t0]) (rest := []) C hw hl.1 kX3_isPage ml_X3_81 (c_X3_isPage l G _ t0 u3 e3) CutX.none ⟨rfl, rfl⟩ ⟨Nat.le_of_ble_eq_true rfl, Nat.le_of_ble_eq_true rfl⟩ rfl ⟨Nat.zero_le _, Nat.zero_le _⟩ rfl (Nat.le_of_ble_eq_true rfl) dX3_compactClass_54 (fun H locs hw => ?_)
    refine lv_if_ne (tgt := 61) C.1 C.2.1 dX3_compactClass_57 (by decide) (fun hc => ?_) (fun hc => ?_)
    · replace hf := ifn hf hc
      refine r_aload0 C hl 1 rfl dX3_compactClass_61 ?_
      refine r_get C hw _ (gx_h pO_o) 3 fl_X3_24 rfl dX3_compactClass_62 ?_
      refine r_aload0 C hl 1 rfl dX3_compactClass_65 ?_
      refine r_get C hw _ (gx_h pO_o) 6 fl_X3_35 rfl dX3_compactClass_66 ?_
      refine r_iload C hl 0 rfl dX3_compactClass_69 ?_
      obtain ⟨v4_, e4, hf⟩ := bx hf
      refine r_iald C hw _ (gx_h pO_g6) e4 dX3_compactClass_71 ?_
      refine r_aload0 C hl 1 rfl dX3_compactClass_72 ?_
      refine r_get C hw _ (gx_h pO_o) 7 fl_X3_38 rfl dX3_compactClass_73 ?_
      refine r_iload C hl 0 rfl dX3_compactClass_76 ?_
      obtain ⟨v5_, e5, hf⟩ := bx hf
      refine r_iald C hw _ (gx_h pO_g7) e5 dX3_compactClass_78 ?_
      obtain ⟨u6, e6, hf⟩ := bx hf
      refine r_callVv (ws' := (pO G ad p_ad ++ (zO G ad u6 ++ []))) (As := [.int v4_, .int v5_]) (rest := []) C hw hl.1 kX7_takeOut ml_X3_153 (c_X7_takeOut l G ad _ z_ad v4_ v5_ u6 e6) (CutX.skip (CutX.take zO_f CutX.none)) _ (gx_t (gx_h zO_o)) rfl ⟨rfl, rfl⟩ ⟨Nat.le_of_ble_eq_true rfl, Nat.le_of_ble_eq_true rfl⟩ rfl ⟨Nat.zero_le _, Nat.zero_le _⟩ rfl (Nat.le_of_ble_eq_true rfl) dX3_compactClass_79 (fun H locs hw => ?_)
      refine r_aload0 C hl 1 rfl dX3_compactClass_82 ?_
      refine r_get C hw _ (gx_h pO_o) 6 fl_X3_35 rfl dX3_compactClass_83 ?_
      refine r_iload C hl 0 rfl dX3_compactClass_86 ?_
      refine r_iload C hl 4 rfl dX3_compactClass_88 ?_
      obtain ⟨p_ad7, e7, hf⟩ := bx hf
      refine r_iast C hw _ (gx_h pO_g6) e7 (pO G ad p_ad7 ++ (zO G ad u6 ++ [])) (fun h => (sx_h pO_g6 (pO_s6 h))) dX3_compactClass_90 (fun H locs hw => ?_)
      refine r_aload0 C hl 1 rfl dX3_compactClass_91 ?_
      refine r_get C hw _ (gx_h pO_o) 7 fl_X3_38 rfl dX3_compactClass_92 ?_
      refine r_iload C hl 0 rfl dX3_compactClass_95 ?_
      refine r_aload0 C hl 1 rfl dX3_compactClass_97 ?_
      refine r_get C hw _ (gx_h pO_o) 3 fl_X3_24 rfl dX3_compactClass_98 ?_
      refine r_iload C hl 4 rfl dX3_compactClass_101 ?_
      refine r_iload0 C hl 2 rfl dX3_compactClass_103 ?_
      refine r_iload C hl 0 rfl dX3_compactClass_104 ?_
      obtain ⟨u8, e8, hf⟩ := bx hf
      refine r_callVi (ws' := (pO G ad p_ad7 ++ (zO G ad u8.2 ++ []))) (As := [.int v4, .int x1, .int t0]) (rest := [.int t0, .ref (ad 7)]) C hw hl.1 kX7_putIn ml_X3_157 (c_X7_putIn l G ad _ u6 v4 x1 t0 u8 e8) (CutX.skip (CutX.take zO_f CutX.none)) _ (gx_t (gx_h zO_o)) rfl ⟨rfl, rfl⟩ ⟨Nat.le_of_ble_eq_true rfl, Nat.le_of_ble_eq_true rfl⟩ rfl ⟨Nat.zero_le _, Nat.zero_le _⟩ rfl (Nat.le_of_ble_eq_true rfl) dX3_compactClass_106 (fun H locs hw => ?_)
      obtain ⟨p_ad9, e9, hf⟩ := bx hf
      refine r_iast C hw _ (gx_h pO_g7) e9 (pO G ad p_ad9 ++ (zO G ad u8.2 ++ [])) (fun h => (sx_h pO_g7 (pO_s7 h))) dX3_compactClass_109 (fun H locs hw => ?_)
      refine r_aload0 C hl 1 rfl dX3_compactClass_110 ?_
      refine r_get C hw _ (gx_h pO_o) 12 fl_X3_50 rfl dX3_compactClass_111 ?_
      refine lv_iconst (v := 3) C.1 C.2.1 dX3_compactClass_114 (by decide) ?_
      refine lv_dup2_11 C.1 C.2.1 dX3_compactClass_115 rfl rfl ?_
      obtain ⟨v10_, e10, hf⟩ := bx hf
      refine r_iald C hw _ (gx_h pO_g12) e10 dX3_compactClass_116 ?_
      refine lv_iconst (v := 1) C.1 C.2.1 dX3_compactClass_117 (by decide) ?_
      refine lv_iadd C.1 C.2.1 dX3_compactClass_118 ?_
      obtain ⟨p_ad11, e11, hf⟩ := bx hf
      refine r_iast C hw _ (gx_h pO_g12) e11 (pO G ad p_ad11 ++ (zO G ad u8.2 ++ [])) (fun h => (sx_h pO_g12 (pO_s12 h))) dX3_compactClass_119 (fun H locs hw => ?_)
      refine r_iinc C hl 3 (v2 + 1) [(2, .int (v2 + 1)), (5, .int t0), (0, .ref (ad 99)), (1, .int x1), (4, .int v4)] rfl (iinc_e (by decide)) (by decide) rfl dX3_compactClass_120 (fun ls hl => ?_)
      refine lv_goto (tgt := 2) C.1 C.2.1 dX3_compactClass_123 (by decide) ?_
      exact hk2 p_ad11 u8.2 (v2 + 1) hf _ _ hw _ (lv_sub hl [2, 3, 0] rfl)
    · replace hf := ifp hf hc
      exact fin_v C hw (Option.some.inj hf) (fun o => (pO G ad o.1 ++ (zO G ad o.2 ++ []))) rfl dX3_compactClass_60
  have hB_49 : ∀ (k2 : Pic → Pic → Int32 → Option (Pic × Pic)) (hk2 : ∀ (p_ad : Pic) (z_ad : Pic) (v2 : Int32), k2 p_ad z_ad v2 = some out → ∀ (H : Heap) (locs : List Loc), Wd G A s H locs (pO G ad p_ad ++ (zO G ad z_ad ++ [])) → ∀ ls : Array Slot, lv_has ls 6 [(0, .ref (ad 99)), (1, .int x1), (2, .int v2)] → W p l e ({ frames := 3, cells := 0, slots := 0, locals := 66 }) s m [.ref (ad 99), .int x1].toArray below meth c H locs 0 0 (MQ below (Don G A (pO G ad out.1 ++ (zO G ad out.2 ++ []))) [.ref (ad 99), .int x1].toArray s 0 0 A) (F0 m 2 ls [])), ∀ (p_ad : Pic) (z_ad : Pic) (v2 : Int32) (v4 : Int32), b_X3_compactClass_49 x1 k2 p_ad z_ad v2 v4 = some out → ∀ (H : Heap) (locs : List Loc), Wd G A s H locs (pO G ad p_ad ++ (zO G ad z_ad ++ [])) → ∀ ls : Array Slot, lv_has ls 6 [(0, .ref (ad 99)), (1, .int x1), (2, .int v2), (4, .int v4)] → W p l e ({ frames := 3, cells := 0, slots := 0, locals := 66 }) s m [.ref (ad 99), .int x1].toArray below meth c H locs 0 0 (MQ below (Don G A (pO G ad out.1 ++ (zO G ad out.2 ++ []))) [.ref (ad 99), .int x1].toArray s 0 0 A) (F0 m 49 ls []) := by
    intro k2 hk2 p_ad z_ad v2 v4 hf H locs hw ls hl
    unfold b_X3_compactClass_49 at hf
    refine lv_iconst (v := (-1)) C.1 C.2.1 dX3_compactClass_49 (by decide) ?_
    exact hB_50 k2 hk2 p_ad z_ad v2 v4 (-1) hf _ _ hw _ (lv_sub hl [0, 1, 2, 3] rfl)
  have hB_2 : ∀ (k2 : Pic → Pic → Int32 → Option (Pic × Pic)) (hk2 : ∀ (p_ad : Pic) (z_ad : Pic) (v2 : Int32), k2 p_ad z_ad v2 = some out → ∀ (H : Heap) (locs : List Loc), Wd G A s H locs (pO G ad p_ad ++ (zO G ad z_ad ++ [])) → ∀ ls : Array Slot, lv_has ls 6 [(0, .ref (ad 99)), (1, .int x1), (2, .int v2)] → W p l e ({ frames := 3, cells := 0, slots := 0, locals := 66 }) s m [.ref (ad 99), .int x1].toArray below meth c H locs 0 0 (MQ below (Don G A (pO G ad out.1 ++ (zO G ad out.2 ++ []))) [.ref (ad 99), .int x1].toArray s 0 0 A) (F0 m 2 ls [])), ∀ (p_ad : Pic) (z_ad : Pic) (v2 : Int32), b_X3_compactClass_2 x1 k2 p_ad z_ad v2 = some out → ∀ (H : Heap) (locs : List Loc), Wd G A s H locs (pO G ad p_ad ++ (zO G ad z_ad ++ [])) → ∀ ls : Array Slot, lv_has ls 6 [(0, .ref (ad 99)), (1, .int x1), (2, .int v2)] → W p l e ({ frames := 3, cells := 0, slots := 0, locals := 66 }) s m [.ref (ad 99), .int x1].toArray below meth c H locs 0 0 (MQ below (Don G A (pO G ad out.1 ++ (zO G ad out.2 ++ []))) [.ref (ad 99), .int x1].toArray s 0 0 A) (F0 m 2 ls []) := by
    intro k2 hk2 p_ad z_ad v2 hf H locs hw ls hl
    unfold b_X3_compactClass_2 at hf
    refine r_iload0 C hl 2 rfl dX3_compactClass_2 ?_
    refine lv_sipush (v := 384) C.1 C.2.1 dX3_compactClass_3 (by decide) ?_
    refine lv_icmp_ge (tgt := 126) C.1 C.2.1 dX3_compactClass_6 (by decide) (fun hc => ?_) (fun hc => ?_)
    · replace hf := ifp hf hc
      exact fin_v C hw (Option.some.inj hf) (fun o => (pO G ad o.1 ++ (zO G ad o.2 ++ []))) rfl dX3_compactClass_126
    · replace hf := ifn hf hc
      refine r_aload0 C hl 0 rfl dX3_compactClass_9 ?_
      refine r_get C hw _ (gx_h pO_o) 3 fl_X3_24 rfl dX3_compactClass_10 ?_
      refine r_iload0 C hl 1 rfl dX3_compactClass_13 ?_
      obtain ⟨u1, e1, hf⟩ := bx hf
      refine r_callVi (ws' := (pO G ad p_ad ++ (zO G ad z_ad ++ []))) (As := [.int x1]) (rest := []) C hw hl.1 kX7_emptiest ml_X3_147 (c_X7_emptiest l G ad _ z_ad x1 u1 e1) (CutX.skip (CutX.take zO_f CutX.none)) _ (gx_t (gx_h zO_o)) rfl ⟨rfl, rfl⟩ ⟨Nat.le_of_ble_eq_true rfl, Nat.le_of_ble_eq_true rfl⟩ rfl ⟨Nat.zero_le _, Nat.zero_le _⟩ rfl (Nat.le_of_ble_eq_true rfl) dX3_compactClass_14 (fun H locs hw => ?_)
      refine r_istore0 C hl [(3, .int u1), (0, .ref (ad 99)), (1, .int x1), (2, .int v2)] (by decide) rfl dX3_compactClass_17 (fun ls hl => ?_)
      refine r_aload0 C hl 1 rfl dX3_compactClass_18 ?_
      refine r_get C hw _ (gx_h pO_o) 3 fl_X3_24 rfl dX3_compactClass_19 ?_
      refine r_iload0 C hl 2 rfl dX3_compactClass_22 ?_
      refine r_iload0 C hl 0 rfl dX3_compactClass_23 ?_
      obtain ⟨u2, e2, hf⟩ := bx hf
      refine r_callVi (ws' := (pO G ad p_ad ++ (zO G ad z_ad ++ []))) (As := [.int x1, .int u1]) (rest := []) C hw hl.1 kX7_fullest ml_X3_95 (c_X7_fullest l G ad _ z_ad x1 u1 u2 e2) (CutX.skip (CutX.take zO_f CutX.none)) _ (gx_t (gx_h zO_o)) rfl ⟨rfl, rfl⟩ ⟨Nat.le_of_ble_eq_true rfl, Nat.le_of_ble_eq_true rfl⟩ rfl ⟨Nat.zero_le _, Nat.zero_le _⟩ rfl (Nat.le_of_ble_eq_true rfl) dX3_compactClass_24 (fun H locs hw => ?_)
      refine r_istore C hl [(4, .int u2), (3, .int u1), (0, .ref (ad 99)), (1, .int x1), (2, .int v2)] (by decide) rfl dX3_compactClass_27 (fun ls hl => ?_)
      refine r_iload0 C hl 1 rfl dX3_compactClass_29 ?_
      refine lv_if_lt (tgt := 49) C.1 C.2.1 dX3_compactClass_30 (by decide) (fun hc => ?_) (fun hc => ?_)
      · replace hf := ifp hf hc
        exact hB_49 k2 hk2 p_ad z_ad v2 u2 hf _ _ hw _ (lv_sub hl [2, 3, 4, 0] rfl)
      · replace hf := ifn hf hc
        refine r_iload C hl 0 rfl dX3_compactClass_33 ?_
        refine lv_if_lt (tgt := 49) C.1 C.2.1 dX3_compactClass_35 (by decide) (fun hc => ?_) (fun hc => ?_)
        · replace hf := ifp hf hc
          exact hB_49 k2 hk2 p_ad z_ad v2 u2 hf _ _ hw _ (lv_sub hl [2, 3, 4, 0] rfl)
        · replace hf := ifn hf hc
          refine r_aload0 C hl 2 rfl dX3_compactClass_38 ?_
          refine r_get C hw _ (gx_h pO_o) 3 fl_X3_24 rfl dX3_compactClass_39 ?_
          refine r_iload0 C hl 1 rfl dX3_compactClass_42 ?_
          obtain ⟨u12, e12, hf⟩ := bx hf
          refine r_callVi (ws' := (pO G ad p_ad ++ (zO G ad z_ad ++ []))) (As := [.int u1]) (rest := []) C hw hl.1 kX7_lastPage ml_X3_150 (c_X7_lastPage l G ad _ z_ad u1 u12 e12) (CutX.skip (CutX.take zO_f CutX.none)) _ (gx_t (gx_h zO_o)) rfl ⟨rfl, rfl⟩ ⟨Nat.le_of_ble_eq_true rfl, Nat.le_of_ble_eq_true rfl⟩ rfl ⟨Nat.zero_le _, Nat.zero_le _⟩ rfl (Nat.le_of_ble_eq_true rfl) dX3_compactClass_43 (fun H locs hw => ?_)
          refine lv_goto (tgt := 50) C.1 C.2.1 dX3_compactClass_46 (by decide) ?_
          exact hB_50 k2 hk2 p_ad z_ad v2 u2 u12 hf _ _ hw _ (lv_sub hl [2, 3, 4, 0] rfl)
  have hL_2 : ∀ n : Nat, ∀ (p_ad : Pic) (z_ad : Pic) (v2 : Int32), L_X3_compactClass_2 x1  n p_ad z_ad v2 = some out → ∀ (H : Heap) (locs : List Loc), Wd G A s H locs (pO G ad p_ad ++ (zO G ad z_ad ++ [])) → ∀ ls : Array Slot, lv_has ls 6 [(0, .ref (ad 99)), (1, .int x1), (2, .int v2)] → W p l e ({ frames := 3, cells := 0, slots := 0, locals := 66 }) s m [.ref (ad 99), .int x1].toArray below meth c H locs 0 0 (MQ below (Don G A (pO G ad out.1 ++ (zO G ad out.2 ++ []))) [.ref (ad 99), .int x1].toArray s 0 0 A) (F0 m 2 ls []) := by
    intro  n
    induction n with
    | zero => intro p_ad z_ad v2 hf; cases hf
    | succ n ih => exact hB_2 _ ih
  unfold f_X3_compactClass at hf
  refine lv_iconst (v := 0) C.1 C.2.1 dX3_compactClass_0 (by decide) ?_
  refine r_istore0 C hl [(2, .int 0), (0, .ref (ad 99)), (1, .int x1)] (by decide) rfl dX3_compactClass_1 (fun ls hl => ?_)
  exact hL_2  FU p_ad z_ad 0 hf _ _ hw _ (lv_sub hl [1, 2, 0] rfl)
set_option maxHeartbeats 4000000 in
set_option maxRecDepth 100000 in
theorem c_X3_leavePool (l : Launch) (G : GG) (ad : Nat → Nat) (sz : Nat) (p_ad : Pic) (z_ad : Pic) (x1 : Int32) (out : Pic × Pic) (hf : f_X3_leavePool p_ad z_ad x1 = some out) : Met l yX3_leavePool (.code yX3_leavePool cX3_leavePool 2 none :: BT) ({ frames := 1, cells := 0, slots := 0, locals := 23 }) (va_Pc [.ref (ad 99), .int x1] (PreW G sz (pO G ad p_ad ++ (zO G ad z_ad ++ [])))) (Don G (va_A (pO G ad p_ad ++ (zO G ad z_ad ++ [])) sz) (pO G ad out.1 ++ (zO G ad out.2 ++ []))) 0 0 (va_A (pO G ad p_ad ++ (zO G ad z_ad ++ [])) sz) := by
  refine Met.into (by decide) (Nat.le_of_ble_eq_true rfl) ?_
  intro p e s m below meth c C hsz ls hl hw
  have hl : lv_has ls 2 [(0, .ref (ad 99)), (1, .int x1)] := hl
  clear hsz
  generalize va_A (pO G ad p_ad ++ (zO G ad z_ad ++ [])) sz = A at hw ⊢
  unfold f_X3_leavePool at hf
  refine r_aload0 C hl 0 rfl dX3_leavePool_0 ?_
  refine r_iload0 C hl 1 rfl dX3_leavePool_1 ?_
  obtain ⟨u1, e1, hf⟩ := bx hf
  refine r_callVv (ws' := (pO G ad u1 ++ (zO G ad z_ad ++ []))) (As := [.int x1]) (rest := []) C hw hl.1 kX3_leaveAges ml_X3_129 (c_X3_leaveAges l G ad _ p_ad x1 u1 e1) (CutX.take pO_f CutX.none) _ (gx_h pO_o) rfl ⟨rfl, rfl⟩ ⟨Nat.le_of_ble_eq_true rfl, Nat.le_of_ble_eq_true rfl⟩ rfl ⟨Nat.zero_le _, Nat.zero_le _⟩ rfl (Nat.le_of_ble_eq_true rfl) dX3_leavePool_2 (fun H locs hw => ?_)
  refine r_aload0 C hl 0 rfl dX3_leavePool_5 ?_
  refine r_get C hw _ (gx_h pO_o) 3 fl_X3_24 rfl dX3_leavePool_6 ?_
  refine r_aload0 C hl 0 rfl dX3_leavePool_9 ?_
  refine r_get C hw _ (gx_h pO_o) 6 fl_X3_35 rfl dX3_leavePool_10 ?_
  refine r_iload0 C hl 1 rfl dX3_leavePool_13 ?_
  obtain ⟨v2_, e2, hf⟩ := bx hf
  refine r_iald C hw _ (gx_h pO_g6) e2 dX3_leavePool_14 ?_
  refine r_aload0 C hl 0 rfl dX3_leavePool_15 ?_
  refine r_get C hw _ (gx_h pO_o) 7 fl_X3_38 rfl dX3_leavePool_16 ?_
  refine r_iload0 C hl 1 rfl dX3_leavePool_19 ?_
  obtain ⟨v3_, e3, hf⟩ := bx hf
  refine r_iald C hw _ (gx_h pO_g7) e3 dX3_leavePool_20 ?_
  obtain ⟨u4, e4, hf⟩ := bx hf
  refine r_callVv (ws' := (pO G ad u1 ++ (zO G ad u4 ++ []))) (As := [.int v2_, .int v3_]) (rest := []) C hw hl.1 kX7_takeOut ml_X3_153 (c_X7_takeOut l G ad _ z_ad v2_ v3_ u4 e4) (CutX.skip (CutX.take zO_f CutX.none)) _ (gx_t (gx_h zO_o)) rfl ⟨rfl, rfl⟩ ⟨Nat.le_of_ble_eq_true rfl, Nat.le_of_ble_eq_true rfl⟩ rfl ⟨Nat.zero_le _, Nat.zero_le _⟩ rfl (Nat.le_of_ble_eq_true rfl) dX3_leavePool_21 (fun H locs hw => ?_)
  refine r_aload0 C hl 0 rfl dX3_leavePool_24 ?_
  refine r_get C hw _ (gx_h pO_o) 8 fl_X3_41 rfl dX3_leavePool_25 ?_
  refine r_iload0 C hl 1 rfl dX3_leavePool_28 ?_
  refine lv_iconst (v := 0) C.1 C.2.1 dX3_leavePool_29 (by decide) ?_
  obtain ⟨p_ad5, e5, hf⟩ := bx hf
  refine r_iast C hw _ (gx_h pO_g8) e5 (pO G ad p_ad5 ++ (zO G ad u4 ++ [])) (fun h => (sx_h pO_g8 (pO_s8 h))) dX3_leavePool_30 (fun H locs hw => ?_)
  exact fin_v C hw (Option.some.inj hf) (fun o => (pO G ad o.1 ++ (zO G ad o.2 ++ []))) rfl dX3_leavePool_31
set_option maxHeartbeats 4000000 in
set_option maxRecDepth 100000 in
theorem c_X3_sizeOf (l : Launch) (G : GG) (ad : Nat → Nat) (sz : Nat) (p_ad : Pic) (x1 : Int32) (out : Int32) (hf : f_X3_sizeOf p_ad x1 = some out) : Met l yX3_sizeOf (.code yX3_sizeOf cX3_sizeOf 2 (some .int) :: BT) ({ frames := 1, cells := 0, slots := 0, locals := 20 }) (va_Pc [.ref (ad 99), .int x1] (PreW G sz (pO G ad p_ad ++ []))) (Ans G out (va_A (pO G ad p_ad ++ []) sz) (pO G ad p_ad ++ [])) 0 0 (va_A (pO G ad p_ad ++ []) sz) := by
  refine Met.into (by decide) (Nat.le_of_ble_eq_true rfl) ?_
  intro p e s m below meth c C hsz ls hl hw
  have hl : lv_has ls 2 [(0, .ref (ad 99)), (1, .int x1)] := hl
  clear hsz
  generalize va_A (pO G ad p_ad ++ []) sz = A at hw ⊢
  unfold f_X3_sizeOf at hf
  refine r_iload0 C hl 1 rfl dX3_sizeOf_0 ?_
  obtain ⟨u1, e1, hf⟩ := bx hf
  refine r_callSi (ws' := (pO G ad p_ad ++ [])) (As := [.int x1]) (rest := []) C hw hl.1 kX3_isPage ml_X3_81 (c_X3_isPage l G _ x1 u1 e1) CutX.none ⟨rfl, rfl⟩ ⟨Nat.le_of_ble_eq_true rfl, Nat.le_of_ble_eq_true rfl⟩ rfl ⟨Nat.zero_le _, Nat.zero_le _⟩ rfl (Nat.le_of_ble_eq_true rfl) dX3_sizeOf_1 (fun H locs hw => ?_)
  refine lv_if_eq (tgt := 16) C.1 C.2.1 dX3_sizeOf_4 (by decide) (fun hc => ?_) (fun hc => ?_)
  · replace hf := ifp hf hc
    refine lv_iconst (v := 0) C.1 C.2.1 dX3_sizeOf_16 (by decide) ?_
    exact fin_i C hw (Option.some.inj hf) (fun o => o) (fun o => (pO G ad p_ad ++ [])) rfl rfl dX3_sizeOf_17
  · replace hf := ifn hf hc
    refine r_aload0 C hl 0 rfl dX3_sizeOf_7 ?_
    refine r_get C hw _ (gx_h pO_o) 5 fl_X3_32 rfl dX3_sizeOf_8 ?_
    refine r_iload0 C hl 1 rfl dX3_sizeOf_11 ?_
    obtain ⟨v2_, e2, hf⟩ := bx hf
    refine r_iald C hw _ (gx_h pO_g5) e2 dX3_sizeOf_12 ?_
    refine lv_goto (tgt := 17) C.1 C.2.1 dX3_sizeOf_13 (by decide) ?_
    exact fin_i C hw (Option.some.inj hf) (fun o => o) (fun o => (pO G ad p_ad ++ [])) rfl rfl dX3_sizeOf_17
set_option maxHeartbeats 4000000 in
set_option maxRecDepth 100000 in
theorem c_X3_coldestOf (l : Launch) (G : GG) (ad : Nat → Nat) (sz : Nat) (p_ad : Pic) (x1 : Int32) (out : Int32) (hf : f_X3_coldestOf p_ad x1 = some out) : Met l yX3_coldestOf (.code yX3_coldestOf cX3_coldestOf 3 (some .int) :: BT) ({ frames := 2, cells := 0, slots := 0, locals := 41 }) (va_Pc [.ref (ad 99), .int x1] (PreW G sz (pO G ad p_ad ++ []))) (Ans G out (va_A (pO G ad p_ad ++ []) sz) (pO G ad p_ad ++ [])) 0 0 (va_A (pO G ad p_ad ++ []) sz) := by
  refine Met.into (by decide) (Nat.le_of_ble_eq_true rfl) ?_
  intro p e s m below meth c C hsz ls hl hw
  have hl : lv_has ls 3 [(0, .ref (ad 99)), (1, .int x1)] := hl
  clear hsz
  generalize va_A (pO G ad p_ad ++ []) sz = A at hw ⊢
  have hB_2 : ∀ (k2 : Int32 → Option (Int32)) (hk2 : ∀ (v2 : Int32), k2 v2 = some out → ∀ (H : Heap) (locs : List Loc), Wd G A s H locs (pO G ad p_ad ++ []) → ∀ ls : Array Slot, lv_has ls 3 [(0, .ref (ad 99)), (1, .int x1), (2, .int v2)] → W p l e ({ frames := 2, cells := 0, slots := 0, locals := 41 }) s m [.ref (ad 99), .int x1].toArray below meth c H locs 0 0 (MQ below (Ans G out A (pO G ad p_ad ++ [])) [.ref (ad 99), .int x1].toArray s 0 0 A) (F0 m 2 ls [])), ∀ (v2 : Int32), b_X3_coldestOf_2 p_ad x1 k2 v2 = some out → ∀ (H : Heap) (locs : List Loc), Wd G A s H locs (pO G ad p_ad ++ []) → ∀ ls : Array Slot, lv_has ls 3 [(0, .ref (ad 99)), (1, .int x1), (2, .int v2)] → W p l e ({ frames := 2, cells := 0, slots := 0, locals := 41 }) s m [.ref (ad 99), .int x1].toArray below meth c H locs 0 0 (MQ below (Ans G out A (pO G ad p_ad ++ [])) [.ref (ad 99), .int x1].toArray s 0 0 A) (F0 m 2 ls []) := by
    intro k2 hk2 v2 hf H locs hw ls hl
    unfold b_X3_coldestOf_2 at hf
    refine r_iload0 C hl 2 rfl dX3_coldestOf_2 ?_
    refine r_aload0 C hl 0 rfl dX3_coldestOf_3 ?_
    refine r_get C hw _ (gx_h pO_o) 11 fl_X3_65 rfl dX3_coldestOf_4 ?_
    refine lv_icmp_ge (tgt := 50) C.1 C.2.1 dX3_coldestOf_7 (by decide) (fun hc => ?_) (fun hc => ?_)
    · replace hf := ifp hf hc
      refine lv_bipush (v := (-2)) C.1 C.2.1 dX3_coldestOf_50 (by decide) ?_
      exact fin_i C hw (Option.some.inj hf) (fun o => o) (fun o => (pO G ad p_ad ++ [])) rfl rfl dX3_coldestOf_52
    · replace hf := ifn hf hc
      refine r_iload0 C hl 2 rfl dX3_coldestOf_10 ?_
      refine lv_bipush (v := 30) C.1 C.2.1 dX3_coldestOf_11 (by decide) ?_
      refine lv_icmp_ge (tgt := 50) C.1 C.2.1 dX3_coldestOf_13 (by decide) (fun hc => ?_) (fun hc => ?_)
      · replace hf := ifp hf hc
        refine lv_bipush (v := (-2)) C.1 C.2.1 dX3_coldestOf_50 (by decide) ?_
        exact fin_i C hw (Option.some.inj hf) (fun o => o) (fun o => (pO G ad p_ad ++ [])) rfl rfl dX3_coldestOf_52
      · replace hf := ifn hf hc
        refine r_aload0 C hl 0 rfl dX3_coldestOf_16 ?_
        refine r_aload0 C hl 0 rfl dX3_coldestOf_17 ?_
        refine r_get C hw _ (gx_h pO_o) 10 fl_X3_47 rfl dX3_coldestOf_18 ?_
        refine r_iload0 C hl 2 rfl dX3_coldestOf_21 ?_
        obtain ⟨v1_, e1, hf⟩ := bx hf
        refine r_iald C hw _ (gx_h pO_g10) e1 dX3_coldestOf_22 ?_
        obtain ⟨u2, e2, hf⟩ := bx hf
        refine r_callVi (ws' := (pO G ad p_ad ++ [])) (As := [.int v1_]) (rest := []) C hw hl.1 kX3_sizeOf ml_X3_85 (c_X3_sizeOf l G ad _ p_ad v1_ u2 e2) (CutX.take pO_f CutX.none) _ (gx_h pO_o) rfl ⟨rfl, rfl⟩ ⟨Nat.le_of_ble_eq_true rfl, Nat.le_of_ble_eq_true rfl⟩ rfl ⟨Nat.zero_le _, Nat.zero_le _⟩ rfl (Nat.le_of_ble_eq_true rfl) dX3_coldestOf_23 (fun H locs hw => ?_)
        refine r_aload0 C hl 0 rfl dX3_coldestOf_26 ?_
        refine r_get C hw _ (gx_h pO_o) 1 fl_X3_15 rfl dX3_coldestOf_27 ?_
        obtain ⟨u3, e3, hf⟩ := bx hf
        refine r_callSi (ws' := (pO G ad p_ad ++ [])) (As := [.int u2, .int (gS p_ad 1)]) (rest := []) C hw hl.1 kX0_homeOf ml_X3_89 (c_X0_homeOf l G _ u2 (gS p_ad 1) u3 e3) CutX.none ⟨rfl, rfl⟩ ⟨Nat.le_of_ble_eq_true rfl, Nat.le_of_ble_eq_true rfl⟩ rfl ⟨Nat.zero_le _, Nat.zero_le _⟩ rfl (Nat.le_of_ble_eq_true rfl) dX3_coldestOf_30 (fun H locs hw => ?_)
        refine r_iload0 C hl 1 rfl dX3_coldestOf_33 ?_
        refine lv_icmp_ne (tgt := 44) C.1 C.2.1 dX3_coldestOf_34 (by decide) (fun hc => ?_) (fun hc => ?_)
        · replace hf := ifn hf hc
          refine r_iinc C hl 2 (v2 + 1) [(2, .int (v2 + 1)), (0, .ref (ad 99)), (1, .int x1)] rfl (iinc_e (by decide)) (by decide) rfl dX3_coldestOf_44 (fun ls hl => ?_)
          refine lv_goto (tgt := 2) C.1 C.2.1 dX3_coldestOf_47 (by decide) ?_
          exact hk2 (v2 + 1) hf _ _ hw _ (lv_sub hl [1, 2, 0] rfl)
        · replace hf := ifp hf hc
          refine r_aload0 C hl 0 rfl dX3_coldestOf_37 ?_
          refine r_get C hw _ (gx_h pO_o) 10 fl_X3_47 rfl dX3_coldestOf_38 ?_
          refine r_iload0 C hl 2 rfl dX3_coldestOf_41 ?_
          obtain ⟨v4_, e4, hf⟩ := bx hf
          refine r_iald C hw _ (gx_h pO_g10) e4 dX3_coldestOf_42 ?_
          exact fin_i C hw (Option.some.inj hf) (fun o => o) (fun o => (pO G ad p_ad ++ [])) rfl rfl dX3_coldestOf_43
  have hL_2 : ∀ n : Nat, ∀ (v2 : Int32), L_X3_coldestOf_2 p_ad x1  n v2 = some out → ∀ (H : Heap) (locs : List Loc), Wd G A s H locs (pO G ad p_ad ++ []) → ∀ ls : Array Slot, lv_has ls 3 [(0, .ref (ad 99)), (1, .int x1), (2, .int v2)] → W p l e ({ frames := 2, cells := 0, slots := 0, locals := 41 }) s m [.ref (ad 99), .int x1].toArray below meth c H locs 0 0 (MQ below (Ans G out A (pO G ad p_ad ++ [])) [.ref (ad 99), .int x1].toArray s 0 0 A) (F0 m 2 ls []) := by
    intro  n
    induction n with
    | zero => intro v2 hf; cases hf
    | succ n ih => exact hB_2 _ ih
  unfold f_X3_coldestOf at hf
  refine lv_iconst (v := 0) C.1 C.2.1 dX3_coldestOf_0 (by decide) ?_
  refine r_istore0 C hl [(2, .int 0), (0, .ref (ad 99)), (1, .int x1)] (by decide) rfl dX3_coldestOf_1 (fun ls hl => ?_)
  exact hL_2  FU 0 hf _ _ hw _ (lv_sub hl [1, 2, 0] rfl)
set_option maxHeartbeats 4000000 in
set_option maxRecDepth 100000 in
theorem c_X3_dropPage (l : Launch) (G : GG) (ad : Nat → Nat) (sz : Nat) (p_ad : Pic) (z_ad : Pic) (x1 : Int32) (out : Pic × Pic) (hf : f_X3_dropPage p_ad z_ad x1 = some out) : Met l yX3_dropPage (.code yX3_dropPage cX3_dropPage 2 none :: BT) ({ frames := 2, cells := 0, slots := 0, locals := 44 }) (va_Pc [.ref (ad 99), .int x1] (PreW G sz (pO G ad p_ad ++ (zO G ad z_ad ++ [])))) (Don G (va_A (pO G ad p_ad ++ (zO G ad z_ad ++ [])) sz) (pO G ad out.1 ++ (zO G ad out.2 ++ []))) 0 0 (va_A (pO G ad p_ad ++ (zO G ad z_ad ++ [])) sz) := by
  refine Met.into (by decide) (Nat.le_of_ble_eq_true rfl) ?_
  intro p e s m below meth c C hsz ls hl hw
  have hl : lv_has ls 2 [(0, .ref (ad 99)), (1, .int x1)] := hl
  clear hsz
  generalize va_A (pO G ad p_ad ++ (zO G ad z_ad ++ [])) sz = A at hw ⊢
  have hB_23 : ∀ (p_ad : Pic) (z_ad : Pic), b_X3_dropPage_23 x1  p_ad z_ad = some out → ∀ (H : Heap) (locs : List Loc), Wd G A s H locs (pO G ad p_ad ++ (zO G ad z_ad ++ [])) → ∀ ls : Array Slot, lv_has ls 2 [(0, .ref (ad 99)), (1, .int x1)] → W p l e ({ frames := 2, cells := 0, slots := 0, locals := 44 }) s m [.ref (ad 99), .int x1].toArray below meth c H locs 0 0 (MQ below (Don G A (pO G ad out.1 ++ (zO G ad out.2 ++ []))) [.ref (ad 99), .int x1].toArray s 0 0 A) (F0 m 23 ls []) := by
    intro p_ad z_ad hf H locs hw ls hl
    unfold b_X3_dropPage_23 at hf
    refine r_aload0 C hl 0 rfl dX3_dropPage_23 ?_
    refine r_get C hw _ (gx_h pO_o) 4 fl_X3_28 rfl dX3_dropPage_24 ?_
    refine r_iload0 C hl 1 rfl dX3_dropPage_27 ?_
    refine lv_iconst (v := 0) C.1 C.2.1 dX3_dropPage_28 (by decide) ?_
    obtain ⟨p_ad3, e3, hf⟩ := bx hf
    refine r_iast C hw _ (gx_h pO_g4) e3 (pO G ad p_ad3 ++ (zO G ad z_ad ++ [])) (fun h => (sx_h pO_g4 (pO_s4 h))) dX3_dropPage_29 (fun H locs hw => ?_)
    exact fin_v C hw (Option.some.inj hf) (fun o => (pO G ad o.1 ++ (zO G ad o.2 ++ []))) rfl dX3_dropPage_30
  unfold f_X3_dropPage at hf
  refine r_iload0 C hl 1 rfl dX3_dropPage_0 ?_
  obtain ⟨u1, e1, hf⟩ := bx hf
  refine r_callSi (ws' := (pO G ad p_ad ++ (zO G ad z_ad ++ []))) (As := [.int x1]) (rest := []) C hw hl.1 kX3_isPage ml_X3_81 (c_X3_isPage l G _ x1 u1 e1) CutX.none ⟨rfl, rfl⟩ ⟨Nat.le_of_ble_eq_true rfl, Nat.le_of_ble_eq_true rfl⟩ rfl ⟨Nat.zero_le _, Nat.zero_le _⟩ rfl (Nat.le_of_ble_eq_true rfl) dX3_dropPage_1 (fun H locs hw => ?_)
  refine lv_if_ne (tgt := 8) C.1 C.2.1 dX3_dropPage_4 (by decide) (fun hc => ?_) (fun hc => ?_)
  · replace hf := ifn hf hc
    refine r_aload0 C hl 0 rfl dX3_dropPage_8 ?_
    refine r_get C hw _ (gx_h pO_o) 4 fl_X3_28 rfl dX3_dropPage_9 ?_
    refine r_iload0 C hl 1 rfl dX3_dropPage_12 ?_
    obtain ⟨v2_, e2, hf⟩ := bx hf
    refine r_iald C hw _ (gx_h pO_g4) e2 dX3_dropPage_13 ?_
    refine lv_iconst (v := 2) C.1 C.2.1 dX3_dropPage_14 (by decide) ?_
    refine lv_icmp_ne (tgt := 23) C.1 C.2.1 dX3_dropPage_15 (by decide) (fun hc => ?_) (fun hc => ?_)
    · replace hf := ifn hf hc
      exact hB_23  p_ad z_ad hf _ _ hw _ (lv_sub hl [0, 1] rfl)
    · replace hf := ifp hf hc
      refine r_aload0 C hl 0 rfl dX3_dropPage_18 ?_
      refine r_iload0 C hl 1 rfl dX3_dropPage_19 ?_
      obtain ⟨u4, e4, hf⟩ := bx hf
      refine r_callVv (ws' := (pO G ad u4.1 ++ (zO G ad u4.2 ++ []))) (As := [.int x1]) (rest := []) C hw hl.1 kX3_leavePool ml_X3_135 (c_X3_leavePool l G ad _ p_ad z_ad x1 u4 e4) (CutX.take pO_f (CutX.take zO_f CutX.none)) _ (gx_h pO_o) rfl ⟨rfl, rfl⟩ ⟨Nat.le_of_ble_eq_true rfl, Nat.le_of_ble_eq_true rfl⟩ rfl ⟨Nat.zero_le _, Nat.zero_le _⟩ rfl (Nat.le_of_ble_eq_true rfl) dX3_dropPage_20 (fun H locs hw => ?_)
      exact hB_23  u4.1 u4.2 hf _ _ hw _ (lv_sub hl [0, 1] rfl)
  · replace hf := ifp hf hc
    exact fin_v C hw (Option.some.inj hf) (fun o => (pO G ad o.1 ++ (zO G ad o.2 ++ []))) rfl dX3_dropPage_7
set_option maxHeartbeats 4000000 in
set_option maxRecDepth 100000 in
theorem c_X3_compactAll (l : Launch) (G : GG) (ad : Nat → Nat) (sz : Nat) (p_ad : Pic) (z_ad : Pic)  (out : Int32 × Pic × Pic) (hf : f_X3_compactAll p_ad z_ad = some out) : Met l yX3_compactAll (.code yX3_compactAll cX3_compactAll 3 (some .int) :: BT) ({ frames := 4, cells := 0, slots := 0, locals := 91 }) (va_Pc [.ref (ad 99)] (PreW G sz (pO G ad p_ad ++ (zO G ad z_ad ++ [])))) (Ans G out.1 (va_A (pO G ad p_ad ++ (zO G ad z_ad ++ [])) sz) (pO G ad out.2.1 ++ (zO G ad out.2.2 ++ []))) 0 0 (va_A (pO G ad p_ad ++ (zO G ad z_ad ++ [])) sz) := by
  refine Met.into (by decide) (Nat.le_of_ble_eq_true rfl) ?_
  intro p e s m below meth c C hsz ls hl hw
  have hl : lv_has ls 3 [(0, .ref (ad 99))] := hl
  clear hsz
  generalize va_A (pO G ad p_ad ++ (zO G ad z_ad ++ [])) sz = A at hw ⊢
  have hB_10 : ∀ (k10 : Pic → Pic → Int32 → Int32 → Option (Int32 × Pic × Pic)) (hk10 : ∀ (p_ad : Pic) (z_ad : Pic) (v1 : Int32) (v2 : Int32), k10 p_ad z_ad v1 v2 = some out → ∀ (H : Heap) (locs : List Loc), Wd G A s H locs (pO G ad p_ad ++ (zO G ad z_ad ++ [])) → ∀ ls : Array Slot, lv_has ls 3 [(0, .ref (ad 99)), (1, .int v1), (2, .int v2)] → W p l e ({ frames := 4, cells := 0, slots := 0, locals := 91 }) s m [.ref (ad 99)].toArray below meth c H locs 0 0 (MQ below (Ans G out.1 A (pO G ad out.2.1 ++ (zO G ad out.2.2 ++ []))) [.ref (ad 99)].toArray s 0 0 A) (F0 m 10 ls [])), ∀ (p_ad : Pic) (z_ad : Pic) (v1 : Int32) (v2 : Int32), b_X3_compactAll_10  k10 p_ad z_ad v1 v2 = some out → ∀ (H : Heap) (locs : List Loc), Wd G A s H locs (pO G ad p_ad ++ (zO G ad z_ad ++ [])) → ∀ ls : Array Slot, lv_has ls 3 [(0, .ref (ad 99)), (1, .int v1), (2, .int v2)] → W p l e ({ frames := 4, cells := 0, slots := 0, locals := 91 }) s m [.ref (ad 99)].toArray below meth c H locs 0 0 (MQ below (Ans G out.1 A (pO G ad out.2.1 ++ (zO G ad out.2.2 ++ []))) [.ref (ad 99)].toArray s 0 0 A) (F0 m 10 ls []) := by
    intro k10 hk10 p_ad z_ad v1 v2 hf H locs hw ls hl
    unfold b_X3_compactAll_10 at hf
    refine r_iload0 C hl 2 rfl dX3_compactAll_10 ?_
    refine lv_bipush (v := 16) C.1 C.2.1 dX3_compactAll_11 (by decide) ?_
    refine lv_icmp_gt (tgt := 27) C.1 C.2.1 dX3_compactAll_13 (by decide) (fun hc => ?_) (fun hc => ?_)
    · replace hf := ifp hf hc
      refine r_iload0 C hl 1 rfl dX3_compactAll_27 ?_
      refine r_aload0 C hl 0 rfl dX3_compactAll_28 ?_
      refine r_get C hw _ (gx_h pO_o) 3 fl_X3_24 rfl dX3_compactAll_29 ?_
      refine r_get C hw _ (gx_t (gx_h zO_o)) 0 fl_X3_102 rfl dX3_compactAll_32 ?_
      refine lv_isub C.1 C.2.1 dX3_compactAll_35 ?_
      exact fin_i C hw (Option.some.inj hf) (fun o => o.1) (fun o => (pO G ad o.2.1 ++ (zO G ad o.2.2 ++ []))) rfl rfl dX3_compactAll_36
    · replace hf := ifn hf hc
      refine r_aload0 C hl 0 rfl dX3_compactAll_16 ?_
      refine r_iload0 C hl 2 rfl dX3_compactAll_17 ?_
      obtain ⟨u1, e1, hf⟩ := bx hf
      refine r_callVv (ws' := (pO G ad u1.1 ++ (zO G ad u1.2 ++ []))) (As := [.int v2]) (rest := []) C hw hl.1 kX3_compactClass ml_X3_144 (c_X3_compactClass l G ad _ p_ad z_ad v2 u1 e1) (CutX.take pO_f (CutX.take zO_f CutX.none)) _ (gx_h pO_o) rfl ⟨rfl, rfl⟩ ⟨Nat.le_of_ble_eq_true rfl, Nat.le_of_ble_eq_true rfl⟩ rfl ⟨Nat.zero_le _, Nat.zero_le _⟩ rfl (Nat.le_of_ble_eq_true rfl) dX3_compactAll_18 (fun H locs hw => ?_)
      refine r_iinc C hl 2 (v2 + 1) [(2, .int (v2 + 1)), (0, .ref (ad 99)), (1, .int v1)] rfl (iinc_e (by decide)) (by decide) rfl dX3_compactAll_21 (fun ls hl => ?_)
      refine lv_goto (tgt := 10) C.1 C.2.1 dX3_compactAll_24 (by decide) ?_
      exact hk10 u1.1 u1.2 v1 (v2 + 1) hf _ _ hw _ (lv_sub hl [1, 2, 0] rfl)
  have hL_10 : ∀ n : Nat, ∀ (p_ad : Pic) (z_ad : Pic) (v1 : Int32) (v2 : Int32), L_X3_compactAll_10   n p_ad z_ad v1 v2 = some out → ∀ (H : Heap) (locs : List Loc), Wd G A s H locs (pO G ad p_ad ++ (zO G ad z_ad ++ [])) → ∀ ls : Array Slot, lv_has ls 3 [(0, .ref (ad 99)), (1, .int v1), (2, .int v2)] → W p l e ({ frames := 4, cells := 0, slots := 0, locals := 91 }) s m [.ref (ad 99)].toArray below meth c H locs 0 0 (MQ below (Ans G out.1 A (pO G ad out.2.1 ++ (zO G ad out.2.2 ++ []))) [.ref (ad 99)].toArray s 0 0 A) (F0 m 10 ls []) := by
    intro  n
    induction n with
    | zero => intro p_ad z_ad v1 v2 hf; cases hf
    | succ n ih => exact hB_10 _ ih
  unfold f_X3_compactAll at hf
  refine r_aload0 C hl 0 rfl dX3_compactAll_0 ?_
  refine r_get C hw _ (gx_h pO_o) 3 fl_X3_24 rfl dX3_compactAll_1 ?_
  refine r_get C hw _ (gx_t (gx_h zO_o)) 0 fl_X3_102 rfl dX3_compactAll_4 ?_
  refine r_istore0 C hl [(1, .int (gS z_ad 0)), (0, .ref (ad 99))] (by decide) rfl dX3_compactAll_7 (fun ls hl => ?_)
  refine lv_iconst (v := 1) C.1 C.2.1 dX3_compactAll_8 (by decide) ?_
  refine r_istore0 C hl [(2, .int 1), (1, .int (gS z_ad 0)), (0, .ref (ad 99))] (by decide) rfl dX3_compactAll_9 (fun ls hl => ?_)
  exact hL_10  FU p_ad z_ad (gS z_ad 0) 1 hf _ _ hw _ (lv_sub hl [2, 1, 0] rfl)
set_option maxHeartbeats 4000000 in
set_option maxRecDepth 100000 in
theorem c_X3_writeOut (l : Launch) (G : GG) (ad : Nat → Nat) (sz : Nat) (p_ad : Pic) (z_ad : Pic) (x1 : Int32) (out : Pic × Pic) (hf : f_X3_writeOut p_ad z_ad x1 = some out) : Met l yX3_writeOut (.code yX3_writeOut cX3_writeOut 2 none :: BT) ({ frames := 2, cells := 0, slots := 0, locals := 44 }) (va_Pc [.ref (ad 99), .int x1] (PreW G sz (pO G ad p_ad ++ (zO G ad z_ad ++ [])))) (Don G (va_A (pO G ad p_ad ++ (zO G ad z_ad ++ [])) sz) (pO G ad out.1 ++ (zO G ad out.2 ++ []))) 0 0 (va_A (pO G ad p_ad ++ (zO G ad z_ad ++ [])) sz) := by
  refine Met.into (by decide) (Nat.le_of_ble_eq_true rfl) ?_
  intro p e s m below meth c C hsz ls hl hw
  have hl : lv_has ls 2 [(0, .ref (ad 99)), (1, .int x1)] := hl
  clear hsz
  generalize va_A (pO G ad p_ad ++ (zO G ad z_ad ++ [])) sz = A at hw ⊢
  have hB_15 : ∀ (p_ad : Pic) (z_ad : Pic), b_X3_writeOut_15 x1  p_ad z_ad = some out → ∀ (H : Heap) (locs : List Loc), Wd G A s H locs (pO G ad p_ad ++ (zO G ad z_ad ++ [])) → ∀ ls : Array Slot, lv_has ls 2 [(0, .ref (ad 99)), (1, .int x1)] → W p l e ({ frames := 2, cells := 0, slots := 0, locals := 44 }) s m [.ref (ad 99), .int x1].toArray below meth c H locs 0 0 (MQ below (Don G A (pO G ad out.1 ++ (zO G ad out.2 ++ []))) [.ref (ad 99), .int x1].toArray s 0 0 A) (F0 m 15 ls []) := by
    intro p_ad z_ad hf H locs hw ls hl
    unfold b_X3_writeOut_15 at hf
    refine r_aload0 C hl 0 rfl dX3_writeOut_15 ?_
    refine r_get C hw _ (gx_h pO_o) 4 fl_X3_28 rfl dX3_writeOut_16 ?_
    refine r_iload0 C hl 1 rfl dX3_writeOut_19 ?_
    refine lv_iconst (v := 3) C.1 C.2.1 dX3_writeOut_20 (by decide) ?_
    obtain ⟨p_ad2, e2, hf⟩ := bx hf
    refine r_iast C hw _ (gx_h pO_g4) e2 (pO G ad p_ad2 ++ (zO G ad z_ad ++ [])) (fun h => (sx_h pO_g4 (pO_s4 h))) dX3_writeOut_21 (fun H locs hw => ?_)
    refine r_aload0 C hl 0 rfl dX3_writeOut_22 ?_
    refine r_get C hw _ (gx_h pO_o) 12 fl_X3_50 rfl dX3_writeOut_23 ?_
    refine lv_iconst (v := 0) C.1 C.2.1 dX3_writeOut_26 (by decide) ?_
    refine lv_dup2_11 C.1 C.2.1 dX3_writeOut_27 rfl rfl ?_
    obtain ⟨v3_, e3, hf⟩ := bx hf
    refine r_iald C hw _ (gx_h pO_g12) e3 dX3_writeOut_28 ?_
    refine lv_iconst (v := 1) C.1 C.2.1 dX3_writeOut_29 (by decide) ?_
    refine lv_iadd C.1 C.2.1 dX3_writeOut_30 ?_
    obtain ⟨p_ad4, e4, hf⟩ := bx hf
    refine r_iast C hw _ (gx_h pO_g12) e4 (pO G ad p_ad4 ++ (zO G ad z_ad ++ [])) (fun h => (sx_h pO_g12 (pO_s12 h))) dX3_writeOut_31 (fun H locs hw => ?_)
    exact fin_v C hw (Option.some.inj hf) (fun o => (pO G ad o.1 ++ (zO G ad o.2 ++ []))) rfl dX3_writeOut_32
  unfold f_X3_writeOut at hf
  refine r_aload0 C hl 0 rfl dX3_writeOut_0 ?_
  refine r_get C hw _ (gx_h pO_o) 4 fl_X3_28 rfl dX3_writeOut_1 ?_
  refine r_iload0 C hl 1 rfl dX3_writeOut_4 ?_
  obtain ⟨v1_, e1, hf⟩ := bx hf
  refine r_iald C hw _ (gx_h pO_g4) e1 dX3_writeOut_5 ?_
  refine lv_iconst (v := 2) C.1 C.2.1 dX3_writeOut_6 (by decide) ?_
  refine lv_icmp_ne (tgt := 15) C.1 C.2.1 dX3_writeOut_7 (by decide) (fun hc => ?_) (fun hc => ?_)
  · replace hf := ifn hf hc
    exact hB_15  p_ad z_ad hf _ _ hw _ (lv_sub hl [0, 1] rfl)
  · replace hf := ifp hf hc
    refine r_aload0 C hl 0 rfl dX3_writeOut_10 ?_
    refine r_iload0 C hl 1 rfl dX3_writeOut_11 ?_
    obtain ⟨u5, e5, hf⟩ := bx hf
    refine r_callVv (ws' := (pO G ad u5.1 ++ (zO G ad u5.2 ++ []))) (As := [.int x1]) (rest := []) C hw hl.1 kX3_leavePool ml_X3_135 (c_X3_leavePool l G ad _ p_ad z_ad x1 u5 e5) (CutX.take pO_f (CutX.take zO_f CutX.none)) _ (gx_h pO_o) rfl ⟨rfl, rfl⟩ ⟨Nat.le_of_ble_eq_true rfl, Nat.le_of_ble_eq_true rfl⟩ rfl ⟨Nat.zero_le _, Nat.zero_le _⟩ rfl (Nat.le_of_ble_eq_true rfl) dX3_writeOut_12 (fun H locs hw => ?_)
    exact hB_15  u5.1 u5.2 hf _ _ hw _ (lv_sub hl [0, 1] rfl)
set_option maxHeartbeats 4000000 in
set_option maxRecDepth 100000 in
theorem c_X3_writeColdest (l : Launch) (G : GG) (ad : Nat → Nat) (sz : Nat) (p_ad : Pic) (z_ad : Pic) (x1 : Int32) (out : Int32 × Pic × Pic) (hf : f_X3_writeColdest p_ad z_ad x1 = some out) : Met l yX3_writeColdest (.code yX3_writeColdest cX3_writeColdest 4 (some .int) :: BT) ({ frames := 3, cells := 0, slots := 0, locals := 65 }) (va_Pc [.ref (ad 99), .int x1] (PreW G sz (pO G ad p_ad ++ (zO G ad z_ad ++ [])))) (Ans G out.1 (va_A (pO G ad p_ad ++ (zO G ad z_ad ++ [])) sz) (pO G ad out.2.1 ++ (zO G ad out.2.2 ++ []))) 0 0 (va_A (pO G ad p_ad ++ (zO G ad z_ad ++ [])) sz) := by
  refine Met.into (by decide) (Nat.le_of_ble_eq_true rfl) ?_
  intro p e s m below meth c C hsz ls hl hw
  have hl : lv_has ls 4 [(0, .ref (ad 99)), (1, .int x1)] := hl
  clear hsz
  generalize va_A (pO G ad p_ad ++ (zO G ad z_ad ++ [])) sz = A at hw ⊢
  have hB_2 : ∀ (k2 : Pic → Pic → Int32 → Option (Int32 × Pic × Pic)) (hk2 : ∀ (p_ad : Pic) (z_ad : Pic) (v2 : Int32), k2 p_ad z_ad v2 = some out → ∀ (H : Heap) (locs : List Loc), Wd G A s H locs (pO G ad p_ad ++ (zO G ad z_ad ++ [])) → ∀ ls : Array Slot, lv_has ls 4 [(0, .ref (ad 99)), (1, .int x1), (2, .int v2)] → W p l e ({ frames := 3, cells := 0, slots := 0, locals := 65 }) s m [.ref (ad 99), .int x1].toArray below meth c H locs 0 0 (MQ below (Ans G out.1 A (pO G ad out.2.1 ++ (zO G ad out.2.2 ++ []))) [.ref (ad 99), .int x1].toArray s 0 0 A) (F0 m 2 ls [])), ∀ (p_ad : Pic) (z_ad : Pic) (v2 : Int32), b_X3_writeColdest_2 x1 k2 p_ad z_ad v2 = some out → ∀ (H : Heap) (locs : List Loc), Wd G A s H locs (pO G ad p_ad ++ (zO G ad z_ad ++ [])) → ∀ ls : Array Slot, lv_has ls 4 [(0, .ref (ad 99)), (1, .int x1), (2, .int v2)] → W p l e ({ frames := 3, cells := 0, slots := 0, locals := 65 }) s m [.ref (ad 99), .int x1].toArray below meth c H locs 0 0 (MQ below (Ans G out.1 A (pO G ad out.2.1 ++ (zO G ad out.2.2 ++ []))) [.ref (ad 99), .int x1].toArray s 0 0 A) (F0 m 2 ls []) := by
    intro k2 hk2 p_ad z_ad v2 hf H locs hw ls hl
    unfold b_X3_writeColdest_2 at hf
    refine r_iload0 C hl 2 rfl dX3_writeColdest_2 ?_
    refine r_iload0 C hl 1 rfl dX3_writeColdest_3 ?_
    refine lv_icmp_ge (tgt := 29) C.1 C.2.1 dX3_writeColdest_4 (by decide) (fun hc => ?_) (fun hc => ?_)
    · replace hf := ifp hf hc
      refine r_iload0 C hl 1 rfl dX3_writeColdest_29 ?_
      exact fin_i C hw (Option.some.inj hf) (fun o => o.1) (fun o => (pO G ad o.2.1 ++ (zO G ad o.2.2 ++ []))) rfl rfl dX3_writeColdest_30
    · replace hf := ifn hf hc
      refine r_aload0 C hl 0 rfl dX3_writeColdest_7 ?_
      obtain ⟨u1, e1, hf⟩ := bx hf
      refine r_callVi (ws' := (pO G ad p_ad ++ (zO G ad z_ad ++ []))) (As := []) (rest := []) C hw hl.1 kX3_coldestLoose ml_X3_138 (c_X3_coldestLoose l G ad _ p_ad u1 e1) (CutX.take pO_f CutX.none) _ (gx_h pO_o) rfl ⟨rfl, rfl⟩ ⟨Nat.le_of_ble_eq_true rfl, Nat.le_of_ble_eq_true rfl⟩ rfl ⟨Nat.zero_le _, Nat.zero_le _⟩ rfl (Nat.le_of_ble_eq_true rfl) dX3_writeColdest_8 (fun H locs hw => ?_)
      refine r_istore0 C hl [(3, .int u1), (0, .ref (ad 99)), (1, .int x1), (2, .int v2)] (by decide) rfl dX3_writeColdest_11 (fun ls hl => ?_)
      refine r_iload0 C hl 0 rfl dX3_writeColdest_12 ?_
      refine lv_if_ge (tgt := 18) C.1 C.2.1 dX3_writeColdest_13 (by decide) (fun hc => ?_) (fun hc => ?_)
      · replace hf := ifp hf hc
        refine r_aload0 C hl 1 rfl dX3_writeColdest_18 ?_
        refine r_iload0 C hl 0 rfl dX3_writeColdest_19 ?_
        obtain ⟨u2, e2, hf⟩ := bx hf
        refine r_callVv (ws' := (pO G ad u2.1 ++ (zO G ad u2.2 ++ []))) (As := [.int u1]) (rest := []) C hw hl.1 kX3_writeOut ml_X3_123 (c_X3_writeOut l G ad _ p_ad z_ad u1 u2 e2) (CutX.take pO_f (CutX.take zO_f CutX.none)) _ (gx_h pO_o) rfl ⟨rfl, rfl⟩ ⟨Nat.le_of_ble_eq_true rfl, Nat.le_of_ble_eq_true rfl⟩ rfl ⟨Nat.zero_le _, Nat.zero_le _⟩ rfl (Nat.le_of_ble_eq_true rfl) dX3_writeColdest_20 (fun H locs hw => ?_)
        refine r_iinc C hl 3 (v2 + 1) [(2, .int (v2 + 1)), (3, .int u1), (0, .ref (ad 99)), (1, .int x1)] rfl (iinc_e (by decide)) (by decide) rfl dX3_writeColdest_23 (fun ls hl => ?_)
        refine lv_goto (tgt := 2) C.1 C.2.1 dX3_writeColdest_26 (by decide) ?_
        exact hk2 u2.1 u2.2 (v2 + 1) hf _ _ hw _ (lv_sub hl [2, 3, 0] rfl)
      · replace hf := ifn hf hc
        refine r_iload0 C hl 3 rfl dX3_writeColdest_16 ?_
        exact fin_i C hw (Option.some.inj hf) (fun o => o.1) (fun o => (pO G ad o.2.1 ++ (zO G ad o.2.2 ++ []))) rfl rfl dX3_writeColdest_17
  have hL_2 : ∀ n : Nat, ∀ (p_ad : Pic) (z_ad : Pic) (v2 : Int32), L_X3_writeColdest_2 x1  n p_ad z_ad v2 = some out → ∀ (H : Heap) (locs : List Loc), Wd G A s H locs (pO G ad p_ad ++ (zO G ad z_ad ++ [])) → ∀ ls : Array Slot, lv_has ls 4 [(0, .ref (ad 99)), (1, .int x1), (2, .int v2)] → W p l e ({ frames := 3, cells := 0, slots := 0, locals := 65 }) s m [.ref (ad 99), .int x1].toArray below meth c H locs 0 0 (MQ below (Ans G out.1 A (pO G ad out.2.1 ++ (zO G ad out.2.2 ++ []))) [.ref (ad 99), .int x1].toArray s 0 0 A) (F0 m 2 ls []) := by
    intro  n
    induction n with
    | zero => intro p_ad z_ad v2 hf; cases hf
    | succ n ih => exact hB_2 _ ih
  unfold f_X3_writeColdest at hf
  refine lv_iconst (v := 0) C.1 C.2.1 dX3_writeColdest_0 (by decide) ?_
  refine r_istore0 C hl [(2, .int 0), (0, .ref (ad 99)), (1, .int x1)] (by decide) rfl dX3_writeColdest_1 (fun ls hl => ?_)
  exact hL_2  FU p_ad z_ad 0 hf _ _ hw _ (lv_sub hl [1, 2, 0] rfl)
set_option maxHeartbeats 4000000 in
set_option maxRecDepth 100000 in
theorem c_X3_changeLimit (l : Launch) (G : GG) (ad : Nat → Nat) (sz : Nat) (p_ad : Pic) (z_ad : Pic) (x1 : Int32) (out : Int32 × Pic × Pic) (hf : f_X3_changeLimit p_ad z_ad x1 = some out) : Met l yX3_changeLimit (.code yX3_changeLimit cX3_changeLimit 4 (some .int) :: BT) ({ frames := 3, cells := 0, slots := 0, locals := 65 }) (va_Pc [.ref (ad 99), .int x1] (PreW G sz (pO G ad p_ad ++ (zO G ad z_ad ++ [])))) (Ans G out.1 (va_A (pO G ad p_ad ++ (zO G ad z_ad ++ [])) sz) (pO G ad out.2.1 ++ (zO G ad out.2.2 ++ []))) 0 0 (va_A (pO G ad p_ad ++ (zO G ad z_ad ++ [])) sz) := by
  refine Met.into (by decide) (Nat.le_of_ble_eq_true rfl) ?_
  intro p e s m below meth c C hsz ls hl hw
  have hl : lv_has ls 4 [(0, .ref (ad 99)), (1, .int x1)] := hl
  clear hsz
  generalize va_A (pO G ad p_ad ++ (zO G ad z_ad ++ [])) sz = A at hw ⊢
  have hB_12 : ∀ (k12 : Pic → Pic → Int32 → Option (Int32 × Pic × Pic)) (hk12 : ∀ (p_ad : Pic) (z_ad : Pic) (v2 : Int32), k12 p_ad z_ad v2 = some out → ∀ (H : Heap) (locs : List Loc), Wd G A s H locs (pO G ad p_ad ++ (zO G ad z_ad ++ [])) → ∀ ls : Array Slot, lv_has ls 4 [(0, .ref (ad 99)), (2, .int v2)] → W p l e ({ frames := 3, cells := 0, slots := 0, locals := 65 }) s m [.ref (ad 99), .int x1].toArray below meth c H locs 0 0 (MQ below (Ans G out.1 A (pO G ad out.2.1 ++ (zO G ad out.2.2 ++ []))) [.ref (ad 99), .int x1].toArray s 0 0 A) (F0 m 12 ls [])), ∀ (p_ad : Pic) (z_ad : Pic) (v2 : Int32), b_X3_changeLimit_12 x1 k12 p_ad z_ad v2 = some out → ∀ (H : Heap) (locs : List Loc), Wd G A s H locs (pO G ad p_ad ++ (zO G ad z_ad ++ [])) → ∀ ls : Array Slot, lv_has ls 4 [(0, .ref (ad 99)), (2, .int v2)] → W p l e ({ frames := 3, cells := 0, slots := 0, locals := 65 }) s m [.ref (ad 99), .int x1].toArray below meth c H locs 0 0 (MQ below (Ans G out.1 A (pO G ad out.2.1 ++ (zO G ad out.2.2 ++ []))) [.ref (ad 99), .int x1].toArray s 0 0 A) (F0 m 12 ls []) := by
    intro k12 hk12 p_ad z_ad v2 hf H locs hw ls hl
    unfold b_X3_changeLimit_12 at hf
    refine r_iload0 C hl 1 rfl dX3_changeLimit_12 ?_
    refine lv_bipush (v := 30) C.1 C.2.1 dX3_changeLimit_13 (by decide) ?_
    refine lv_icmp_ge (tgt := 60) C.1 C.2.1 dX3_changeLimit_15 (by decide) (fun hc => ?_) (fun hc => ?_)
    · replace hf := ifp hf hc
      refine r_aload0 C hl 0 rfl dX3_changeLimit_60 ?_
      refine r_get C hw _ (gx_h pO_o) 14 fl_X3_68 rfl dX3_changeLimit_61 ?_
      exact fin_i C hw (Option.some.inj hf) (fun o => o.1) (fun o => (pO G ad o.2.1 ++ (zO G ad o.2.2 ++ []))) rfl rfl dX3_changeLimit_64
    · replace hf := ifn hf hc
      refine r_aload0 C hl 0 rfl dX3_changeLimit_18 ?_
      refine r_get C hw _ (gx_h pO_o) 3 fl_X3_24 rfl dX3_changeLimit_19 ?_
      refine r_get C hw _ (gx_t (gx_h zO_o)) 0 fl_X3_102 rfl dX3_changeLimit_22 ?_
      refine r_aload0 C hl 0 rfl dX3_changeLimit_25 ?_
      refine r_get C hw _ (gx_h pO_o) 0 fl_X3_9 rfl dX3_changeLimit_26 ?_
      refine lv_icmp_le (tgt := 60) C.1 C.2.1 dX3_changeLimit_29 (by decide) (fun hc => ?_) (fun hc => ?_)
      · replace hf := ifp hf hc
        refine r_aload0 C hl 0 rfl dX3_changeLimit_60 ?_
        refine r_get C hw _ (gx_h pO_o) 14 fl_X3_68 rfl dX3_changeLimit_61 ?_
        exact fin_i C hw (Option.some.inj hf) (fun o => o.1) (fun o => (pO G ad o.2.1 ++ (zO G ad o.2.2 ++ []))) rfl rfl dX3_changeLimit_64
      · replace hf := ifn hf hc
        refine r_aload0 C hl 0 rfl dX3_changeLimit_32 ?_
        obtain ⟨u3, e3, hf⟩ := bx hf
        refine r_callVi (ws' := (pO G ad p_ad ++ (zO G ad z_ad ++ []))) (As := []) (rest := []) C hw hl.1 kX3_coldestLoose ml_X3_138 (c_X3_coldestLoose l G ad _ p_ad u3 e3) (CutX.take pO_f CutX.none) _ (gx_h pO_o) rfl ⟨rfl, rfl⟩ ⟨Nat.le_of_ble_eq_true rfl, Nat.le_of_ble_eq_true rfl⟩ rfl ⟨Nat.zero_le _, Nat.zero_le _⟩ rfl (Nat.le_of_ble_eq_true rfl) dX3_changeLimit_33 (fun H locs hw => ?_)
        refine r_istore0 C hl [(3, .int u3), (0, .ref (ad 99)), (2, .int v2)] (by decide) rfl dX3_changeLimit_36 (fun ls hl => ?_)
        refine r_iload0 C hl 0 rfl dX3_changeLimit_37 ?_
        refine lv_if_ge (tgt := 44) C.1 C.2.1 dX3_changeLimit_38 (by decide) (fun hc => ?_) (fun hc => ?_)
        · replace hf := ifp hf hc
          refine r_aload0 C hl 1 rfl dX3_changeLimit_44 ?_
          refine r_iload0 C hl 0 rfl dX3_changeLimit_45 ?_
          obtain ⟨u4, e4, hf⟩ := bx hf
          refine r_callVv (ws' := (pO G ad u4.1 ++ (zO G ad u4.2 ++ []))) (As := [.int u3]) (rest := []) C hw hl.1 kX3_writeOut ml_X3_123 (c_X3_writeOut l G ad _ p_ad z_ad u3 u4 e4) (CutX.take pO_f (CutX.take zO_f CutX.none)) _ (gx_h pO_o) rfl ⟨rfl, rfl⟩ ⟨Nat.le_of_ble_eq_true rfl, Nat.le_of_ble_eq_true rfl⟩ rfl ⟨Nat.zero_le _, Nat.zero_le _⟩ rfl (Nat.le_of_ble_eq_true rfl) dX3_changeLimit_46 (fun H locs hw => ?_)
          refine r_aload0 C hl 1 rfl dX3_changeLimit_49 ?_
          refine r_iload0 C hl 0 rfl dX3_changeLimit_50 ?_
          obtain ⟨u5, e5, hf⟩ := bx hf
          refine r_callVv (ws' := (pO G ad u5 ++ (zO G ad u4.2 ++ []))) (As := [.int u3]) (rest := []) C hw hl.1 kX3_notePushed ml_X3_141 (c_X3_notePushed l G ad _ u4.1 u3 u5 e5) (CutX.take pO_f CutX.none) _ (gx_h pO_o) rfl ⟨rfl, rfl⟩ ⟨Nat.le_of_ble_eq_true rfl, Nat.le_of_ble_eq_true rfl⟩ rfl ⟨Nat.zero_le _, Nat.zero_le _⟩ rfl (Nat.le_of_ble_eq_true rfl) dX3_changeLimit_51 (fun H locs hw => ?_)
          refine r_iinc C hl 2 (v2 + 1) [(2, .int (v2 + 1)), (3, .int u3), (0, .ref (ad 99))] rfl (iinc_e (by decide)) (by decide) rfl dX3_changeLimit_54 (fun ls hl => ?_)
          refine lv_goto (tgt := 12) C.1 C.2.1 dX3_changeLimit_57 (by decide) ?_
          exact hk12 u5 u4.2 (v2 + 1) hf _ _ hw _ (lv_sub hl [2, 0] rfl)
        · replace hf := ifn hf hc
          refine lv_goto (tgt := 60) C.1 C.2.1 dX3_changeLimit_41 (by decide) ?_
          refine r_aload0 C hl 1 rfl dX3_changeLimit_60 ?_
          refine r_get C hw _ (gx_h pO_o) 14 fl_X3_68 rfl dX3_changeLimit_61 ?_
          exact fin_i C hw (Option.some.inj hf) (fun o => o.1) (fun o => (pO G ad o.2.1 ++ (zO G ad o.2.2 ++ []))) rfl rfl dX3_changeLimit_64
  have hL_12 : ∀ n : Nat, ∀ (p_ad : Pic) (z_ad : Pic) (v2 : Int32), L_X3_changeLimit_12 x1  n p_ad z_ad v2 = some out → ∀ (H : Heap) (locs : List Loc), Wd G A s H locs (pO G ad p_ad ++ (zO G ad z_ad ++ [])) → ∀ ls : Array Slot, lv_has ls 4 [(0, .ref (ad 99)), (2, .int v2)] → W p l e ({ frames := 3, cells := 0, slots := 0, locals := 65 }) s m [.ref (ad 99), .int x1].toArray below meth c H locs 0 0 (MQ below (Ans G out.1 A (pO G ad out.2.1 ++ (zO G ad out.2.2 ++ []))) [.ref (ad 99), .int x1].toArray s 0 0 A) (F0 m 12 ls []) := by
    intro  n
    induction n with
    | zero => intro p_ad z_ad v2 hf; cases hf
    | succ n ih => exact hB_12 _ ih
  unfold f_X3_changeLimit at hf
  refine r_aload0 C hl 0 rfl dX3_changeLimit_0 ?_
  refine r_iload0 C hl 1 rfl dX3_changeLimit_1 ?_
  obtain ⟨p_ad1, e1, hf⟩ := bx hf
  refine r_put C hw _ (gx_h pO_o) 0 fp_X3_9 rfl rfl (Nat.le_of_ble_eq_true rfl) (pO G ad p_ad1 ++ (zO G ad z_ad ++ [])) (sx_h pO_o (pO_p0 e1)) dX3_changeLimit_2 (fun H locs hw => ?_)
  refine r_aload0 C hl 0 rfl dX3_changeLimit_5 ?_
  refine lv_iconst (v := 0) C.1 C.2.1 dX3_changeLimit_6 (by decide) ?_
  obtain ⟨p_ad2, e2, hf⟩ := bx hf
  refine r_put C hw _ (gx_h pO_o) 14 fp_X3_68 rfl rfl (Nat.le_of_ble_eq_true rfl) (pO G ad p_ad2 ++ (zO G ad z_ad ++ [])) (sx_h pO_o (pO_p14 e2)) dX3_changeLimit_7 (fun H locs hw => ?_)
  refine lv_iconst (v := 0) C.1 C.2.1 dX3_changeLimit_10 (by decide) ?_
  refine r_istore0 C hl [(2, .int 0), (0, .ref (ad 99)), (1, .int x1)] (by decide) rfl dX3_changeLimit_11 (fun ls hl => ?_)
  exact hL_12  FU p_ad2 z_ad 0 hf _ _ hw _ (lv_sub hl [1, 0] rfl)
set_option maxHeartbeats 4000000 in
set_option maxRecDepth 100000 in
theorem c_X3_settle (l : Launch) (G : GG) (ad : Nat → Nat) (sz : Nat) (p_ad : Pic) (z_ad : Pic) (x1 : Int32) (out : Pic × Pic) (hf : f_X3_settle p_ad z_ad x1 = some out) : Met l yX3_settle (.code yX3_settle cX3_settle 6 none :: BT) ({ frames := 3, cells := 0, slots := 0, locals := 68 }) (va_Pc [.ref (ad 99), .int x1] (PreW G sz (pO G ad p_ad ++ (zO G ad z_ad ++ [])))) (Don G (va_A (pO G ad p_ad ++ (zO G ad z_ad ++ [])) sz) (pO G ad out.1 ++ (zO G ad out.2 ++ []))) 0 0 (va_A (pO G ad p_ad ++ (zO G ad z_ad ++ [])) sz) := by
  refine Met.into (by decide) (Nat.le_of_ble_eq_true rfl) ?_
  intro p e s m below meth c C hsz ls hl hw
  have hl : lv_has ls 6 [(0, .ref (ad 99)), (1, .int x1)] := hl
  clear hsz
  generalize va_A (pO G ad p_ad ++ (zO G ad z_ad ++ [])) sz = A at hw ⊢
  have hB_104 : ∀ (p_ad : Pic) (z_ad : Pic), b_X3_settle_104 x1  p_ad z_ad = some out → ∀ (H : Heap) (locs : List Loc), Wd G A s H locs (pO G ad p_ad ++ (zO G ad z_ad ++ [])) → ∀ ls : Array Slot, lv_has ls 6 [(0, .ref (ad 99)), (1, .int x1)] → W p l e ({ frames := 3, cells := 0, slots := 0, locals := 68 }) s m [.ref (ad 99), .int x1].toArray below meth c H locs 0 0 (MQ below (Don G A (pO G ad out.1 ++ (zO G ad out.2 ++ []))) [.ref (ad 99), .int x1].toArray s 0 0 A) (F0 m 104 ls []) := by
    intro p_ad z_ad hf H locs hw ls hl
    unfold b_X3_settle_104 at hf
    refine r_aload0 C hl 0 rfl dX3_settle_104 ?_
    refine r_iload0 C hl 1 rfl dX3_settle_105 ?_
    obtain ⟨u3, e3, hf⟩ := bx hf
    refine r_callVv (ws' := (pO G ad u3.1 ++ (zO G ad u3.2 ++ []))) (As := [.int x1]) (rest := []) C hw hl.1 kX3_writeOut ml_X3_123 (c_X3_writeOut l G ad _ p_ad z_ad x1 u3 e3) (CutX.take pO_f (CutX.take zO_f CutX.none)) _ (gx_h pO_o) rfl ⟨rfl, rfl⟩ ⟨Nat.le_of_ble_eq_true rfl, Nat.le_of_ble_eq_true rfl⟩ rfl ⟨Nat.zero_le _, Nat.zero_le _⟩ rfl (Nat.le_of_ble_eq_true rfl) dX3_settle_106 (fun H locs hw => ?_)
    refine r_aload0 C hl 0 rfl dX3_settle_109 ?_
    refine r_iload0 C hl 1 rfl dX3_settle_110 ?_
    obtain ⟨u4, e4, hf⟩ := bx hf
    refine r_callVv (ws' := (pO G ad u4 ++ (zO G ad u3.2 ++ []))) (As := [.int x1]) (rest := []) C hw hl.1 kX3_notePushed ml_X3_141 (c_X3_notePushed l G ad _ u3.1 x1 u4 e4) (CutX.take pO_f CutX.none) _ (gx_h pO_o) rfl ⟨rfl, rfl⟩ ⟨Nat.le_of_ble_eq_true rfl, Nat.le_of_ble_eq_true rfl⟩ rfl ⟨Nat.zero_le _, Nat.zero_le _⟩ rfl (Nat.le_of_ble_eq_true rfl) dX3_settle_111 (fun H locs hw => ?_)
    exact fin_v C hw (Option.some.inj hf) (fun o => (pO G ad o.1 ++ (zO G ad o.2 ++ []))) rfl dX3_settle_114
  have hB_16 : ∀ (k16 : Pic → Pic → Int32 → Int32 → Option (Pic × Pic)) (hk16 : ∀ (p_ad : Pic) (z_ad : Pic) (v2 : Int32) (v3 : Int32), k16 p_ad z_ad v2 v3 = some out → ∀ (H : Heap) (locs : List Loc), Wd G A s H locs (pO G ad p_ad ++ (zO G ad z_ad ++ [])) → ∀ ls : Array Slot, lv_has ls 6 [(0, .ref (ad 99)), (1, .int x1), (2, .int v2), (3, .int v3)] → W p l e ({ frames := 3, cells := 0, slots := 0, locals := 68 }) s m [.ref (ad 99), .int x1].toArray below meth c H locs 0 0 (MQ below (Don G A (pO G ad out.1 ++ (zO G ad out.2 ++ []))) [.ref (ad 99), .int x1].toArray s 0 0 A) (F0 m 16 ls [])), ∀ (p_ad : Pic) (z_ad : Pic) (v2 : Int32) (v3 : Int32), b_X3_settle_16 x1 k16 p_ad z_ad v2 v3 = some out → ∀ (H : Heap) (locs : List Loc), Wd G A s H locs (pO G ad p_ad ++ (zO G ad z_ad ++ [])) → ∀ ls : Array Slot, lv_has ls 6 [(0, .ref (ad 99)), (1, .int x1), (2, .int v2), (3, .int v3)] → W p l e ({ frames := 3, cells := 0, slots := 0, locals := 68 }) s m [.ref (ad 99), .int x1].toArray below meth c H locs 0 0 (MQ below (Don G A (pO G ad out.1 ++ (zO G ad out.2 ++ []))) [.ref (ad 99), .int x1].toArray s 0 0 A) (F0 m 16 ls []) := by
    intro k16 hk16 p_ad z_ad v2 v3 hf H locs hw ls hl
    unfold b_X3_settle_16 at hf
    refine r_iload0 C hl 3 rfl dX3_settle_16 ?_
    refine lv_bipush (v := 30) C.1 C.2.1 dX3_settle_17 (by decide) ?_
    refine lv_icmp_gt (tgt := 104) C.1 C.2.1 dX3_settle_19 (by decide) (fun hc => ?_) (fun hc => ?_)
    · replace hf := ifp hf hc
      exact hB_104  p_ad z_ad hf _ _ hw _ (lv_sub hl [0, 1] rfl)
    · replace hf := ifn hf hc
      refine r_aload0 C hl 0 rfl dX3_settle_22 ?_
      refine r_iload0 C hl 2 rfl dX3_settle_23 ?_
      obtain ⟨u5, e5, hf⟩ := bx hf
      refine r_callVi (ws' := (pO G ad p_ad ++ (zO G ad z_ad ++ []))) (As := [.int v2]) (rest := []) C hw hl.1 kX3_zoneFor ml_X3_161 (c_X3_zoneFor l G ad _ p_ad z_ad v2 u5 e5) (CutX.take pO_f (CutX.take zO_f CutX.none)) _ (gx_h pO_o) rfl ⟨rfl, rfl⟩ ⟨Nat.le_of_ble_eq_true rfl, Nat.le_of_ble_eq_true rfl⟩ rfl ⟨Nat.zero_le _, Nat.zero_le _⟩ rfl (Nat.le_of_ble_eq_true rfl) dX3_settle_24 (fun H locs hw => ?_)
      refine r_istore C hl [(4, .int u5), (0, .ref (ad 99)), (1, .int x1), (2, .int v2), (3, .int v3)] (by decide) rfl dX3_settle_27 (fun ls hl => ?_)
      refine r_iload C hl 0 rfl dX3_settle_29 ?_
      refine lv_if_lt (tgt := 72) C.1 C.2.1 dX3_settle_31 (by decide) (fun hc => ?_) (fun hc => ?_)
      · replace hf := ifp hf hc
        refine r_aload0 C hl 1 rfl dX3_settle_72 ?_
        obtain ⟨u6, e6, hf⟩ := bx hf
        refine r_callVi (ws' := (pO G ad p_ad ++ (zO G ad z_ad ++ []))) (As := []) (rest := []) C hw hl.1 kX3_coldestLoose ml_X3_138 (c_X3_coldestLoose l G ad _ p_ad u6 e6) (CutX.take pO_f CutX.none) _ (gx_h pO_o) rfl ⟨rfl, rfl⟩ ⟨Nat.le_of_ble_eq_true rfl, Nat.le_of_ble_eq_true rfl⟩ rfl ⟨Nat.zero_le _, Nat.zero_le _⟩ rfl (Nat.le_of_ble_eq_true rfl) dX3_settle_73 (fun H locs hw => ?_)
        refine r_istore C hl [(5, .int u6), (4, .int u5), (0, .ref (ad 99)), (1, .int x1), (2, .int v2), (3, .int v3)] (by decide) rfl dX3_settle_76 (fun ls hl => ?_)
        refine r_iload C hl 0 rfl dX3_settle_78 ?_
        refine lv_if_ge (tgt := 86) C.1 C.2.1 dX3_settle_80 (by decide) (fun hc => ?_) (fun hc => ?_)
        · replace hf := ifp hf hc
          refine r_aload0 C hl 2 rfl dX3_settle_86 ?_
          refine r_iload C hl 0 rfl dX3_settle_87 ?_
          obtain ⟨u7, e7, hf⟩ := bx hf
          refine r_callVv (ws' := (pO G ad u7.1 ++ (zO G ad u7.2 ++ []))) (As := [.int u6]) (rest := []) C hw hl.1 kX3_writeOut ml_X3_123 (c_X3_writeOut l G ad _ p_ad z_ad u6 u7 e7) (CutX.take pO_f (CutX.take zO_f CutX.none)) _ (gx_h pO_o) rfl ⟨rfl, rfl⟩ ⟨Nat.le_of_ble_eq_true rfl, Nat.le_of_ble_eq_true rfl⟩ rfl ⟨Nat.zero_le _, Nat.zero_le _⟩ rfl (Nat.le_of_ble_eq_true rfl) dX3_settle_89 (fun H locs hw => ?_)
          refine r_aload0 C hl 2 rfl dX3_settle_92 ?_
          refine r_iload C hl 0 rfl dX3_settle_93 ?_
          obtain ⟨u8, e8, hf⟩ := bx hf
          refine r_callVv (ws' := (pO G ad u8 ++ (zO G ad u7.2 ++ []))) (As := [.int u6]) (rest := []) C hw hl.1 kX3_notePushed ml_X3_141 (c_X3_notePushed l G ad _ u7.1 u6 u8 e8) (CutX.take pO_f CutX.none) _ (gx_h pO_o) rfl ⟨rfl, rfl⟩ ⟨Nat.le_of_ble_eq_true rfl, Nat.le_of_ble_eq_true rfl⟩ rfl ⟨Nat.zero_le _, Nat.zero_le _⟩ rfl (Nat.le_of_ble_eq_true rfl) dX3_settle_95 (fun H locs hw => ?_)
          refine r_iinc C hl 5 (v3 + 1) [(3, .int (v3 + 1)), (5, .int u6), (4, .int u5), (0, .ref (ad 99)), (1, .int x1), (2, .int v2)] rfl (iinc_e (by decide)) (by decide) rfl dX3_settle_98 (fun ls hl => ?_)
          refine lv_goto (tgt := 16) C.1 C.2.1 dX3_settle_101 (by decide) ?_
          exact hk16 u8 u7.2 v2 (v3 + 1) hf _ _ hw _ (lv_sub hl [3, 4, 5, 0] rfl)
        · replace hf := ifn hf hc
          refine lv_goto (tgt := 104) C.1 C.2.1 dX3_settle_83 (by decide) ?_
          exact hB_104  p_ad z_ad hf _ _ hw _ (lv_sub hl [2, 3] rfl)
      · replace hf := ifn hf hc
        refine r_aload0 C hl 1 rfl dX3_settle_34 ?_
        refine r_get C hw _ (gx_h pO_o) 6 fl_X3_35 rfl dX3_settle_35 ?_
        refine r_iload0 C hl 2 rfl dX3_settle_38 ?_
        refine r_iload C hl 0 rfl dX3_settle_39 ?_
        obtain ⟨p_ad9, e9, hf⟩ := bx hf
        refine r_iast C hw _ (gx_h pO_g6) e9 (pO G ad p_ad9 ++ (zO G ad z_ad ++ [])) (fun h => (sx_h pO_g6 (pO_s6 h))) dX3_settle_41 (fun H locs hw => ?_)
        refine r_aload0 C hl 1 rfl dX3_settle_42 ?_
        refine r_get C hw _ (gx_h pO_o) 7 fl_X3_38 rfl dX3_settle_43 ?_
        refine r_iload0 C hl 2 rfl dX3_settle_46 ?_
        refine r_aload0 C hl 1 rfl dX3_settle_47 ?_
        refine r_get C hw _ (gx_h pO_o) 3 fl_X3_24 rfl dX3_settle_48 ?_
        refine r_iload C hl 0 rfl dX3_settle_51 ?_
        refine r_iload0 C hl 3 rfl dX3_settle_53 ?_
        refine r_iload0 C hl 2 rfl dX3_settle_54 ?_
        obtain ⟨u10, e10, hf⟩ := bx hf
        refine r_callVi (ws' := (pO G ad p_ad9 ++ (zO G ad u10.2 ++ []))) (As := [.int u5, .int v2, .int x1]) (rest := [.int x1, .ref (ad 7)]) C hw hl.1 kX7_putIn ml_X3_157 (c_X7_putIn l G ad _ z_ad u5 v2 x1 u10 e10) (CutX.skip (CutX.take zO_f CutX.none)) _ (gx_t (gx_h zO_o)) rfl ⟨rfl, rfl⟩ ⟨Nat.le_of_ble_eq_true rfl, Nat.le_of_ble_eq_true rfl⟩ rfl ⟨Nat.zero_le _, Nat.zero_le _⟩ rfl (Nat.le_of_ble_eq_true rfl) dX3_settle_55 (fun H locs hw => ?_)
        obtain ⟨p_ad11, e11, hf⟩ := bx hf
        refine r_iast C hw _ (gx_h pO_g7) e11 (pO G ad p_ad11 ++ (zO G ad u10.2 ++ [])) (fun h => (sx_h pO_g7 (pO_s7 h))) dX3_settle_58 (fun H locs hw => ?_)
        refine r_aload0 C hl 1 rfl dX3_settle_59 ?_
        refine r_get C hw _ (gx_h pO_o) 4 fl_X3_28 rfl dX3_settle_60 ?_
        refine r_iload0 C hl 2 rfl dX3_settle_63 ?_
        refine lv_iconst (v := 2) C.1 C.2.1 dX3_settle_64 (by decide) ?_
        obtain ⟨p_ad12, e12, hf⟩ := bx hf
        refine r_iast C hw _ (gx_h pO_g4) e12 (pO G ad p_ad12 ++ (zO G ad u10.2 ++ [])) (fun h => (sx_h pO_g4 (pO_s4 h))) dX3_settle_65 (fun H locs hw => ?_)
        refine r_aload0 C hl 1 rfl dX3_settle_66 ?_
        refine r_iload0 C hl 2 rfl dX3_settle_67 ?_
        obtain ⟨u13, e13, hf⟩ := bx hf
        refine r_callVv (ws' := (pO G ad u13 ++ (zO G ad u10.2 ++ []))) (As := [.int x1]) (rest := []) C hw hl.1 kX3_addYoungest ml_X3_132 (c_X3_addYoungest l G ad _ p_ad12 x1 u13 e13) (CutX.take pO_f CutX.none) _ (gx_h pO_o) rfl ⟨rfl, rfl⟩ ⟨Nat.le_of_ble_eq_true rfl, Nat.le_of_ble_eq_true rfl⟩ rfl ⟨Nat.zero_le _, Nat.zero_le _⟩ rfl (Nat.le_of_ble_eq_true rfl) dX3_settle_68 (fun H locs hw => ?_)
        exact fin_v C hw (Option.some.inj hf) (fun o => (pO G ad o.1 ++ (zO G ad o.2 ++ []))) rfl dX3_settle_71
  have hL_16 : ∀ n : Nat, ∀ (p_ad : Pic) (z_ad : Pic) (v2 : Int32) (v3 : Int32), L_X3_settle_16 x1  n p_ad z_ad v2 v3 = some out → ∀ (H : Heap) (locs : List Loc), Wd G A s H locs (pO G ad p_ad ++ (zO G ad z_ad ++ [])) → ∀ ls : Array Slot, lv_has ls 6 [(0, .ref (ad 99)), (1, .int x1), (2, .int v2), (3, .int v3)] → W p l e ({ frames := 3, cells := 0, slots := 0, locals := 68 }) s m [.ref (ad 99), .int x1].toArray below meth c H locs 0 0 (MQ below (Don G A (pO G ad out.1 ++ (zO G ad out.2 ++ []))) [.ref (ad 99), .int x1].toArray s 0 0 A) (F0 m 16 ls []) := by
    intro  n
    induction n with
    | zero => intro p_ad z_ad v2 v3 hf; cases hf
    | succ n ih => exact hB_16 _ ih
  unfold f_X3_settle at hf
  refine r_aload0 C hl 0 rfl dX3_settle_0 ?_
  refine r_get C hw _ (gx_h pO_o) 5 fl_X3_32 rfl dX3_settle_1 ?_
  refine r_iload0 C hl 1 rfl dX3_settle_4 ?_
  obtain ⟨v1_, e1, hf⟩ := bx hf
  refine r_iald C hw _ (gx_h pO_g5) e1 dX3_settle_5 ?_
  refine r_aload0 C hl 0 rfl dX3_settle_6 ?_
  refine r_get C hw _ (gx_h pO_o) 1 fl_X3_15 rfl dX3_settle_7 ?_
  obtain ⟨u2, e2, hf⟩ := bx hf
  refine r_callSi (ws' := (pO G ad p_ad ++ (zO G ad z_ad ++ []))) (As := [.int v1_, .int (gS p_ad 1)]) (rest := []) C hw hl.1 kX0_homeOf ml_X3_89 (c_X0_homeOf l G _ v1_ (gS p_ad 1) u2 e2) CutX.none ⟨rfl, rfl⟩ ⟨Nat.le_of_ble_eq_true rfl, Nat.le_of_ble_eq_true rfl⟩ rfl ⟨Nat.zero_le _, Nat.zero_le _⟩ rfl (Nat.le_of_ble_eq_true rfl) dX3_settle_10 (fun H locs hw => ?_)
  refine r_istore0 C hl [(2, .int u2), (0, .ref (ad 99)), (1, .int x1)] (by decide) rfl dX3_settle_13 (fun ls hl => ?_)
  refine lv_iconst (v := 0) C.1 C.2.1 dX3_settle_14 (by decide) ?_
  refine r_istore0 C hl [(3, .int 0), (2, .int u2), (0, .ref (ad 99)), (1, .int x1)] (by decide) rfl dX3_settle_15 (fun ls hl => ?_)
  exact hL_16  FU p_ad z_ad u2 0 hf _ _ hw _ (lv_sub hl [2, 3, 1, 0] rfl)
set_option maxHeartbeats 4000000 in
set_option maxRecDepth 100000 in
theorem c_X3_storePage (l : Launch) (G : GG) (ad : Nat → Nat) (ae : Nat → Nat) (sz : Nat) (p_ad : Pic) (z_ad : Pic) (e_ae : Pic) (x1 x3 x4 : Int32) (out : Pic × Pic) (hf : f_X3_storePage p_ad z_ad e_ae x1 x3 x4 = some out) : Met l yX3_storePage (.code yX3_storePage cX3_storePage 5 none :: BT) ({ frames := 4, cells := 0, slots := 0, locals := 93 }) (va_Pc [.ref (ad 99), .int x1, .ref (ae 200), .int x3, .int x4] (PreW G sz (pO G ad p_ad ++ (zO G ad z_ad ++ (eO G ae e_ae ++ []))))) (Don G (va_A (pO G ad p_ad ++ (zO G ad z_ad ++ (eO G ae e_ae ++ []))) sz) (pO G ad out.1 ++ (zO G ad out.2 ++ (eO G ae e_ae ++ [])))) 0 0 (va_A (pO G ad p_ad ++ (zO G ad z_ad ++ (eO G ae e_ae ++ []))) sz) := by
  refine Met.into (by decide) (Nat.le_of_ble_eq_true rfl) ?_
  intro p e s m below meth c C hsz ls hl hw
  have hl : lv_has ls 5 [(0, .ref (ad 99)), (1, .int x1), (2, .ref (ae 200)), (3, .int x3), (4, .int x4)] := hl
  clear hsz
  generalize va_A (pO G ad p_ad ++ (zO G ad z_ad ++ (eO G ae e_ae ++ []))) sz = A at hw ⊢
  unfold f_X3_storePage at hf
  refine r_iload0 C hl 1 rfl dX3_storePage_0 ?_
  obtain ⟨u1, e1, hf⟩ := bx hf
  refine r_callSi (ws' := (pO G ad p_ad ++ (zO G ad z_ad ++ (eO G ae e_ae ++ [])))) (As := [.int x1]) (rest := []) C hw hl.1 kX3_isPage ml_X3_81 (c_X3_isPage l G _ x1 u1 e1) CutX.none ⟨rfl, rfl⟩ ⟨Nat.le_of_ble_eq_true rfl, Nat.le_of_ble_eq_true rfl⟩ rfl ⟨Nat.zero_le _, Nat.zero_le _⟩ rfl (Nat.le_of_ble_eq_true rfl) dX3_storePage_1 (fun H locs hw => ?_)
  refine lv_if_eq (tgt := 20) C.1 C.2.1 dX3_storePage_4 (by decide) (fun hc => ?_) (fun hc => ?_)
  · replace hf := ifp hf hc
    exact fin_v C hw (Option.some.inj hf) (fun o => (pO G ad o.1 ++ (zO G ad o.2 ++ (eO G ae e_ae ++ [])))) rfl dX3_storePage_20
  · replace hf := ifn hf hc
    refine r_iload0 C hl 3 rfl dX3_storePage_7 ?_
    refine lv_if_lt (tgt := 20) C.1 C.2.1 dX3_storePage_8 (by decide) (fun hc => ?_) (fun hc => ?_)
    · replace hf := ifp hf hc
      exact fin_v C hw (Option.some.inj hf) (fun o => (pO G ad o.1 ++ (zO G ad o.2 ++ (eO G ae e_ae ++ [])))) rfl dX3_storePage_20
    · replace hf := ifn hf hc
      refine r_iload0 C hl 3 rfl dX3_storePage_11 ?_
      refine r_aload0 C hl 2 rfl dX3_storePage_12 ?_
      refine r_alen C hw _ (gx_t (gx_t (gx_h eO_g0))) (v := 160) (show Int32.ofNat 160 = 160 from by decide) dX3_storePage_13 ?_
      refine lv_bipush (v := 16) C.1 C.2.1 dX3_storePage_14 (by decide) ?_
      refine lv_isub C.1 C.2.1 dX3_storePage_16 ?_
      refine lv_icmp_le (tgt := 21) C.1 C.2.1 dX3_storePage_17 (by decide) (fun hc => ?_) (fun hc => ?_)
      · replace hf := ifp hf hc
        refine r_aload0 C hl 0 rfl dX3_storePage_21 ?_
        refine lv_iconst (v := 0) C.1 C.2.1 dX3_storePage_22 (by decide) ?_
        obtain ⟨p_ad2, e2, hf⟩ := bx hf
        refine r_put C hw _ (gx_h pO_o) 14 fp_X3_68 rfl rfl (Nat.le_of_ble_eq_true rfl) (pO G ad p_ad2 ++ (zO G ad z_ad ++ (eO G ae e_ae ++ []))) (sx_h pO_o (pO_p14 e2)) dX3_storePage_23 (fun H locs hw => ?_)
        refine r_aload0 C hl 0 rfl dX3_storePage_26 ?_
        refine r_iload0 C hl 1 rfl dX3_storePage_27 ?_
        obtain ⟨u3, e3, hf⟩ := bx hf
        refine r_callVv (ws' := (pO G ad u3.1 ++ (zO G ad u3.2 ++ (eO G ae e_ae ++ [])))) (As := [.int x1]) (rest := []) C hw hl.1 kX3_dropPage ml_X3_114 (c_X3_dropPage l G ad _ p_ad2 z_ad x1 u3 e3) (CutX.take pO_f (CutX.take zO_f CutX.none)) _ (gx_h pO_o) rfl ⟨rfl, rfl⟩ ⟨Nat.le_of_ble_eq_true rfl, Nat.le_of_ble_eq_true rfl⟩ rfl ⟨Nat.zero_le _, Nat.zero_le _⟩ rfl (Nat.le_of_ble_eq_true rfl) dX3_storePage_28 (fun H locs hw => ?_)
        refine r_aload0 C hl 2 rfl dX3_storePage_31 ?_
        refine r_iload0 C hl 3 rfl dX3_storePage_32 ?_
        refine r_aload0 C hl 0 rfl dX3_storePage_33 ?_
        refine r_get C hw _ (gx_h pO_o) 9 fl_X3_44 rfl dX3_storePage_34 ?_
        refine r_iload0 C hl 1 rfl dX3_storePage_37 ?_
        refine lv_bipush (v := 16) C.1 C.2.1 dX3_storePage_38 (by decide) ?_
        refine lv_imul C.1 C.2.1 dX3_storePage_40 ?_
        refine lv_bipush (v := 16) C.1 C.2.1 dX3_storePage_41 (by decide) ?_
        obtain ⟨p_ad4, e4, hf⟩ := bx hf
        refine r_copy C hw hl.1 acl_X3_75 _ _ (gx_t (gx_t (gx_h eO_g0))) (gx_h pO_g9) e4 (pO G ad p_ad4 ++ (zO G ad u3.2 ++ (eO G ae e_ae ++ []))) (fun h => (sx_h pO_g9 (pO_s9 h))) (Nat.le_of_ble_eq_true rfl) (Nat.le_of_ble_eq_true rfl) dX3_storePage_43 (fun H locs hw => ?_)
        refine r_aload0 C hl 0 rfl dX3_storePage_46 ?_
        refine r_get C hw _ (gx_h pO_o) 5 fl_X3_32 rfl dX3_storePage_47 ?_
        refine r_iload0 C hl 1 rfl dX3_storePage_50 ?_
        refine r_iload C hl 4 rfl dX3_storePage_51 ?_
        obtain ⟨p_ad5, e5, hf⟩ := bx hf
        refine r_iast C hw _ (gx_h pO_g5) e5 (pO G ad p_ad5 ++ (zO G ad u3.2 ++ (eO G ae e_ae ++ []))) (fun h => (sx_h pO_g5 (pO_s5 h))) dX3_storePage_53 (fun H locs hw => ?_)
        refine r_iload C hl 4 rfl dX3_storePage_54 ?_
        obtain ⟨u6, e6, hf⟩ := bx hf
        refine r_callSi (ws' := (pO G ad p_ad5 ++ (zO G ad u3.2 ++ (eO G ae e_ae ++ [])))) (As := [.int x4]) (rest := []) C hw hl.1 kX1_isWordSize ml_X3_118 (c_X1_isWordSize l G _ x4 u6 e6) CutX.none ⟨rfl, rfl⟩ ⟨Nat.le_of_ble_eq_true rfl, Nat.le_of_ble_eq_true rfl⟩ rfl ⟨Nat.zero_le _, Nat.zero_le _⟩ rfl (Nat.le_of_ble_eq_true rfl) dX3_storePage_56 (fun H locs hw => ?_)
        refine lv_if_eq (tgt := 72) C.1 C.2.1 dX3_storePage_59 (by decide) (fun hc => ?_) (fun hc => ?_)
        · replace hf := ifp hf hc
          refine r_iload C hl 4 rfl dX3_storePage_72 ?_
          refine r_aload0 C hl 0 rfl dX3_storePage_74 ?_
          refine r_get C hw _ (gx_h pO_o) 2 fl_X3_18 rfl dX3_storePage_75 ?_
          refine lv_icmp_le (tgt := 89) C.1 C.2.1 dX3_storePage_78 (by decide) (fun hc => ?_) (fun hc => ?_)
          · replace hf := ifp hf hc
            refine r_aload0 C hl 0 rfl dX3_storePage_89 ?_
            refine r_iload0 C hl 1 rfl dX3_storePage_90 ?_
            obtain ⟨u7, e7, hf⟩ := bx hf
            refine r_callVv (ws' := (pO G ad u7.1 ++ (zO G ad u7.2 ++ (eO G ae e_ae ++ [])))) (As := [.int x1]) (rest := []) C hw hl.1 kX3_settle ml_X3_126 (c_X3_settle l G ad _ p_ad5 u3.2 x1 u7 e7) (CutX.take pO_f (CutX.take zO_f CutX.none)) _ (gx_h pO_o) rfl ⟨rfl, rfl⟩ ⟨Nat.le_of_ble_eq_true rfl, Nat.le_of_ble_eq_true rfl⟩ rfl ⟨Nat.zero_le _, Nat.zero_le _⟩ rfl (Nat.le_of_ble_eq_true rfl) dX3_storePage_91 (fun H locs hw => ?_)
            exact fin_v C hw (Option.some.inj hf) (fun o => (pO G ad o.1 ++ (zO G ad o.2 ++ (eO G ae e_ae ++ [])))) rfl dX3_storePage_94
          · replace hf := ifn hf hc
            refine r_aload0 C hl 0 rfl dX3_storePage_81 ?_
            refine r_iload0 C hl 1 rfl dX3_storePage_82 ?_
            obtain ⟨u8, e8, hf⟩ := bx hf
            refine r_callVv (ws' := (pO G ad u8.1 ++ (zO G ad u8.2 ++ (eO G ae e_ae ++ [])))) (As := [.int x1]) (rest := []) C hw hl.1 kX3_writeOut ml_X3_123 (c_X3_writeOut l G ad _ p_ad5 u3.2 x1 u8 e8) (CutX.take pO_f (CutX.take zO_f CutX.none)) _ (gx_h pO_o) rfl ⟨rfl, rfl⟩ ⟨Nat.le_of_ble_eq_true rfl, Nat.le_of_ble_eq_true rfl⟩ rfl ⟨Nat.zero_le _, Nat.zero_le _⟩ rfl (Nat.le_of_ble_eq_true rfl) dX3_storePage_83 (fun H locs hw => ?_)
            refine lv_goto (tgt := 94) C.1 C.2.1 dX3_storePage_86 (by decide) ?_
            exact fin_v C hw (Option.some.inj hf) (fun o => (pO G ad o.1 ++ (zO G ad o.2 ++ (eO G ae e_ae ++ [])))) rfl dX3_storePage_94
        · replace hf := ifn hf hc
          refine r_aload0 C hl 0 rfl dX3_storePage_62 ?_
          refine r_get C hw _ (gx_h pO_o) 4 fl_X3_28 rfl dX3_storePage_63 ?_
          refine r_iload0 C hl 1 rfl dX3_storePage_66 ?_
          refine lv_iconst (v := 1) C.1 C.2.1 dX3_storePage_67 (by decide) ?_
          obtain ⟨p_ad9, e9, hf⟩ := bx hf
          refine r_iast C hw _ (gx_h pO_g4) e9 (pO G ad p_ad9 ++ (zO G ad u3.2 ++ (eO G ae e_ae ++ []))) (fun h => (sx_h pO_g4 (pO_s4 h))) dX3_storePage_68 (fun H locs hw => ?_)
          refine lv_goto (tgt := 94) C.1 C.2.1 dX3_storePage_69 (by decide) ?_
          exact fin_v C hw (Option.some.inj hf) (fun o => (pO G ad o.1 ++ (zO G ad o.2 ++ (eO G ae e_ae ++ [])))) rfl dX3_storePage_94
      · replace hf := ifn hf hc
        exact fin_v C hw (Option.some.inj hf) (fun o => (pO G ad o.1 ++ (zO G ad o.2 ++ (eO G ae e_ae ++ [])))) rfl dX3_storePage_20
