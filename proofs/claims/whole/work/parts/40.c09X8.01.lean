set_option maxHeartbeats 4000000 in
set_option maxRecDepth 100000 in
theorem c_X8_about (l : Launch) (G : GG) (am : Nat → Nat) (as_ : Nat → Nat) (ar : Nat → Nat) (ac : Nat → Nat) (an : Nat → Nat) (ath : Nat → Nat) (ah : Nat → Nat) (sz : Nat) (m_am : Pic) (s_as_ : Pic) (t_an : Pic) (p_an : Pic) (z_an : Pic) (x1 : Int32) (out : Int32 × Pic) (hf : f_X8_about m_am s_as_ t_an p_an z_an x1 = some out) : Met l yX8_about (.code yX8_about cX8_about 3 (some .int) :: BT) ({ frames := 1, cells := 0, slots := 0, locals := 23 }) (va_Pc [.ref (am 99), .int x1] (PreW G sz (mO G am as_ ar ac an ath ah m_am ++ (sO G as_ s_as_ ++ (tO G an t_an ++ (pO G an p_an ++ (zO G an z_an ++ []))))))) (Ans G out.1 (va_A (mO G am as_ ar ac an ath ah m_am ++ (sO G as_ s_as_ ++ (tO G an t_an ++ (pO G an p_an ++ (zO G an z_an ++ []))))) sz) (mO G am as_ ar ac an ath ah out.2 ++ (sO G as_ s_as_ ++ (tO G an t_an ++ (pO G an p_an ++ (zO G an z_an ++ [])))))) 0 0 (va_A (mO G am as_ ar ac an ath ah m_am ++ (sO G as_ s_as_ ++ (tO G an t_an ++ (pO G an p_an ++ (zO G an z_an ++ []))))) sz) := by
  refine Met.into (by decide) (Nat.le_of_ble_eq_true rfl) ?_
  intro p e s m below meth c C hsz ls hl hw
  have hl : lv_has ls 3 [(0, .ref (am 99)), (1, .int x1)] := hl
  clear hsz
  generalize va_A (mO G am as_ ar ac an ath ah m_am ++ (sO G as_ s_as_ ++ (tO G an t_an ++ (pO G an p_an ++ (zO G an z_an ++ []))))) sz = A at hw ⊢
  unfold f_X8_about at hf
  refine r_aload0 C hl 0 rfl dX8_about_0 ?_
  refine r_get C hw _ (gx_h mO_o) 2 fl_X8_85 rfl dX8_about_1 ?_
  refine lv_if_ne (tgt := 13) C.1 C.2.1 dX8_about_4 (by decide) (fun hc => ?_) (fun hc => ?_)
  · replace hf := ifn hf hc
    refine r_aload0 C hl 0 rfl dX8_about_13 ?_
    refine r_get C hw _ (gx_h mO_o) 9 fl_X8_37 rfl dX8_about_14 ?_
    refine r_get C hw _ (gx_t (gx_t (gx_h tO_o))) 2 fl_X8_105 rfl dX8_about_17 ?_
    refine r_astore0 C hl [(2, .ref (an 99)), (0, .ref (am 99)), (1, .int x1)] (by decide) rfl dX8_about_20 (fun ls hl => ?_)
    refine r_iload0 C hl 2 rfl dX8_about_21 ?_
    rcases Decidable.em (x1 = 0) with hc | h0_
    · replace hf := ifp hf hc
      refine lv_tableIn (tgt := 80) C.1 C.2.1 dX8_about_22 (by rw [hc]; decide) (by rw [hc]; decide) (by rw [hc]; rfl) (by decide) ?_
      refine r_aload0 C hl 1 rfl dX8_about_80 ?_
      refine r_aload0 C hl 0 rfl dX8_about_81 ?_
      refine r_get C hw _ (gx_t (gx_t (gx_t (gx_h pO_o)))) 0 fl_X8_108 rfl dX8_about_82 ?_
      obtain ⟨u16, e16, hf⟩ := bx hf
      refine r_callVi (ws' := (mO G am as_ ar ac an ath ah u16.2 ++ (sO G as_ s_as_ ++ (tO G an t_an ++ (pO G an p_an ++ (zO G an z_an ++ [])))))) (As := [.int (gS p_an 0)]) (rest := []) C hw hl.1 kX8_answer ml_X8_99 (c_X8_answer l G am as_ ar ac an ath ah _ m_am (gS p_an 0) u16 e16) (CutX.take mO_f CutX.none) _ (gx_h mO_o) rfl ⟨rfl, rfl⟩ ⟨Nat.le_of_ble_eq_true rfl, Nat.le_of_ble_eq_true rfl⟩ rfl ⟨Nat.zero_le _, Nat.zero_le _⟩ rfl (Nat.le_of_ble_eq_true rfl) dX8_about_85 (fun H locs hw => ?_)
      exact fin_i C hw (Option.some.inj hf) (fun o => o.1) (fun o => (mO G am as_ ar ac an ath ah o.2 ++ (sO G as_ s_as_ ++ (tO G an t_an ++ (pO G an p_an ++ (zO G an z_an ++ [])))))) rfl rfl dX8_about_88
    replace hf := ifn hf h0_
    rcases Decidable.em (x1 = 1) with hc | h1_
    · replace hf := ifp hf hc
      refine lv_tableIn (tgt := 89) C.1 C.2.1 dX8_about_22 (by rw [hc]; decide) (by rw [hc]; decide) (by rw [hc]; rfl) (by decide) ?_
      refine r_aload0 C hl 1 rfl dX8_about_89 ?_
      refine r_aload0 C hl 0 rfl dX8_about_90 ?_
      refine r_get C hw _ (gx_t (gx_t (gx_t (gx_h pO_o)))) 1 fl_X8_111 rfl dX8_about_91 ?_
      obtain ⟨u15, e15, hf⟩ := bx hf
      refine r_callVi (ws' := (mO G am as_ ar ac an ath ah u15.2 ++ (sO G as_ s_as_ ++ (tO G an t_an ++ (pO G an p_an ++ (zO G an z_an ++ [])))))) (As := [.int (gS p_an 1)]) (rest := []) C hw hl.1 kX8_answer ml_X8_99 (c_X8_answer l G am as_ ar ac an ath ah _ m_am (gS p_an 1) u15 e15) (CutX.take mO_f CutX.none) _ (gx_h mO_o) rfl ⟨rfl, rfl⟩ ⟨Nat.le_of_ble_eq_true rfl, Nat.le_of_ble_eq_true rfl⟩ rfl ⟨Nat.zero_le _, Nat.zero_le _⟩ rfl (Nat.le_of_ble_eq_true rfl) dX8_about_94 (fun H locs hw => ?_)
      exact fin_i C hw (Option.some.inj hf) (fun o => o.1) (fun o => (mO G am as_ ar ac an ath ah o.2 ++ (sO G as_ s_as_ ++ (tO G an t_an ++ (pO G an p_an ++ (zO G an z_an ++ [])))))) rfl rfl dX8_about_97
    replace hf := ifn hf h1_
    rcases Decidable.em (x1 = 2) with hc | h2_
    · replace hf := ifp hf hc
      refine lv_tableIn (tgt := 98) C.1 C.2.1 dX8_about_22 (by rw [hc]; decide) (by rw [hc]; decide) (by rw [hc]; rfl) (by decide) ?_
      refine r_aload0 C hl 1 rfl dX8_about_98 ?_
      refine r_aload0 C hl 0 rfl dX8_about_99 ?_
      refine r_get C hw _ (gx_t (gx_t (gx_t (gx_h pO_o)))) 2 fl_X8_114 rfl dX8_about_100 ?_
      obtain ⟨u14, e14, hf⟩ := bx hf
      refine r_callVi (ws' := (mO G am as_ ar ac an ath ah u14.2 ++ (sO G as_ s_as_ ++ (tO G an t_an ++ (pO G an p_an ++ (zO G an z_an ++ [])))))) (As := [.int (gS p_an 2)]) (rest := []) C hw hl.1 kX8_answer ml_X8_99 (c_X8_answer l G am as_ ar ac an ath ah _ m_am (gS p_an 2) u14 e14) (CutX.take mO_f CutX.none) _ (gx_h mO_o) rfl ⟨rfl, rfl⟩ ⟨Nat.le_of_ble_eq_true rfl, Nat.le_of_ble_eq_true rfl⟩ rfl ⟨Nat.zero_le _, Nat.zero_le _⟩ rfl (Nat.le_of_ble_eq_true rfl) dX8_about_103 (fun H locs hw => ?_)
      exact fin_i C hw (Option.some.inj hf) (fun o => o.1) (fun o => (mO G am as_ ar ac an ath ah o.2 ++ (sO G as_ s_as_ ++ (tO G an t_an ++ (pO G an p_an ++ (zO G an z_an ++ [])))))) rfl rfl dX8_about_106
    replace hf := ifn hf h2_
    rcases Decidable.em (x1 = 3) with hc | h3_
    · replace hf := ifp hf hc
      refine lv_tableIn (tgt := 107) C.1 C.2.1 dX8_about_22 (by rw [hc]; decide) (by rw [hc]; decide) (by rw [hc]; rfl) (by decide) ?_
      refine r_aload0 C hl 1 rfl dX8_about_107 ?_
      refine r_aload0 C hl 1 rfl dX8_about_108 ?_
      refine r_get C hw _ (gx_h mO_o) 6 fl_X8_16 rfl dX8_about_109 ?_
      refine r_get C hw _ (gx_t (gx_h sO_o)) 3 fl_X8_96 rfl dX8_about_112 ?_
      obtain ⟨u13, e13, hf⟩ := bx hf
      refine r_callVi (ws' := (mO G am as_ ar ac an ath ah u13.2 ++ (sO G as_ s_as_ ++ (tO G an t_an ++ (pO G an p_an ++ (zO G an z_an ++ [])))))) (As := [.int (gS s_as_ 3)]) (rest := []) C hw hl.1 kX8_answer ml_X8_99 (c_X8_answer l G am as_ ar ac an ath ah _ m_am (gS s_as_ 3) u13 e13) (CutX.take mO_f CutX.none) _ (gx_h mO_o) rfl ⟨rfl, rfl⟩ ⟨Nat.le_of_ble_eq_true rfl, Nat.le_of_ble_eq_true rfl⟩ rfl ⟨Nat.zero_le _, Nat.zero_le _⟩ rfl (Nat.le_of_ble_eq_true rfl) dX8_about_115 (fun H locs hw => ?_)
      exact fin_i C hw (Option.some.inj hf) (fun o => o.1) (fun o => (mO G am as_ ar ac an ath ah o.2 ++ (sO G as_ s_as_ ++ (tO G an t_an ++ (pO G an p_an ++ (zO G an z_an ++ [])))))) rfl rfl dX8_about_118
    replace hf := ifn hf h3_
    rcases Decidable.em (x1 = 4) with hc | h4_
    · replace hf := ifp hf hc
      refine lv_tableIn (tgt := 119) C.1 C.2.1 dX8_about_22 (by rw [hc]; decide) (by rw [hc]; decide) (by rw [hc]; rfl) (by decide) ?_
      refine r_aload0 C hl 1 rfl dX8_about_119 ?_
      refine r_aload0 C hl 1 rfl dX8_about_120 ?_
      refine r_get C hw _ (gx_h mO_o) 6 fl_X8_16 rfl dX8_about_121 ?_
      refine r_get C hw _ (gx_t (gx_h sO_o)) 4 fl_X8_117 rfl dX8_about_124 ?_
      obtain ⟨u12, e12, hf⟩ := bx hf
      refine r_callVi (ws' := (mO G am as_ ar ac an ath ah u12.2 ++ (sO G as_ s_as_ ++ (tO G an t_an ++ (pO G an p_an ++ (zO G an z_an ++ [])))))) (As := [.int (gS s_as_ 4)]) (rest := []) C hw hl.1 kX8_answer ml_X8_99 (c_X8_answer l G am as_ ar ac an ath ah _ m_am (gS s_as_ 4) u12 e12) (CutX.take mO_f CutX.none) _ (gx_h mO_o) rfl ⟨rfl, rfl⟩ ⟨Nat.le_of_ble_eq_true rfl, Nat.le_of_ble_eq_true rfl⟩ rfl ⟨Nat.zero_le _, Nat.zero_le _⟩ rfl (Nat.le_of_ble_eq_true rfl) dX8_about_127 (fun H locs hw => ?_)
      exact fin_i C hw (Option.some.inj hf) (fun o => o.1) (fun o => (mO G am as_ ar ac an ath ah o.2 ++ (sO G as_ s_as_ ++ (tO G an t_an ++ (pO G an p_an ++ (zO G an z_an ++ [])))))) rfl rfl dX8_about_130
    replace hf := ifn hf h4_
    rcases Decidable.em (x1 = 5) with hc | h5_
    · replace hf := ifp hf hc
      refine lv_tableIn (tgt := 131) C.1 C.2.1 dX8_about_22 (by rw [hc]; decide) (by rw [hc]; decide) (by rw [hc]; rfl) (by decide) ?_
      refine r_aload0 C hl 1 rfl dX8_about_131 ?_
      refine r_aload0 C hl 0 rfl dX8_about_132 ?_
      refine r_get C hw _ (gx_t (gx_t (gx_t (gx_h pO_o)))) 3 fl_X8_120 rfl dX8_about_133 ?_
      refine r_get C hw _ (gx_t (gx_t (gx_t (gx_t (gx_h zO_o))))) 0 fl_X8_124 rfl dX8_about_136 ?_
      obtain ⟨u11, e11, hf⟩ := bx hf
      refine r_callVi (ws' := (mO G am as_ ar ac an ath ah u11.2 ++ (sO G as_ s_as_ ++ (tO G an t_an ++ (pO G an p_an ++ (zO G an z_an ++ [])))))) (As := [.int (gS z_an 0)]) (rest := []) C hw hl.1 kX8_answer ml_X8_99 (c_X8_answer l G am as_ ar ac an ath ah _ m_am (gS z_an 0) u11 e11) (CutX.take mO_f CutX.none) _ (gx_h mO_o) rfl ⟨rfl, rfl⟩ ⟨Nat.le_of_ble_eq_true rfl, Nat.le_of_ble_eq_true rfl⟩ rfl ⟨Nat.zero_le _, Nat.zero_le _⟩ rfl (Nat.le_of_ble_eq_true rfl) dX8_about_139 (fun H locs hw => ?_)
      exact fin_i C hw (Option.some.inj hf) (fun o => o.1) (fun o => (mO G am as_ ar ac an ath ah o.2 ++ (sO G as_ s_as_ ++ (tO G an t_an ++ (pO G an p_an ++ (zO G an z_an ++ [])))))) rfl rfl dX8_about_142
    replace hf := ifn hf h5_
    rcases Decidable.em (x1 = 6) with hc | h6_
    · replace hf := ifp hf hc
      refine lv_tableIn (tgt := 143) C.1 C.2.1 dX8_about_22 (by rw [hc]; decide) (by rw [hc]; decide) (by rw [hc]; rfl) (by decide) ?_
      refine r_aload0 C hl 1 rfl dX8_about_143 ?_
      refine r_aload0 C hl 0 rfl dX8_about_144 ?_
      refine r_get C hw _ (gx_t (gx_t (gx_t (gx_h pO_o)))) 3 fl_X8_120 rfl dX8_about_145 ?_
      obtain ⟨u9, e9, hf⟩ := bx hf
      refine r_callVi (ws' := (mO G am as_ ar ac an ath ah m_am ++ (sO G as_ s_as_ ++ (tO G an t_an ++ (pO G an p_an ++ (zO G an z_an ++ [])))))) (As := []) (rest := [.ref (am 99)]) C hw hl.1 kX7_countAll ml_X8_129 (c_X7_countAll l G an _ z_an u9 e9) (CutX.skip (CutX.skip (CutX.skip (CutX.skip (CutX.take zO_f CutX.none))))) _ (gx_t (gx_t (gx_t (gx_t (gx_h zO_o))))) rfl ⟨rfl, rfl⟩ ⟨Nat.le_of_ble_eq_true rfl, Nat.le_of_ble_eq_true rfl⟩ rfl ⟨Nat.zero_le _, Nat.zero_le _⟩ rfl (Nat.le_of_ble_eq_true rfl) dX8_about_148 (fun H locs hw => ?_)
      obtain ⟨u10, e10, hf⟩ := bx hf
      refine r_callVi (ws' := (mO G am as_ ar ac an ath ah u10.2 ++ (sO G as_ s_as_ ++ (tO G an t_an ++ (pO G an p_an ++ (zO G an z_an ++ [])))))) (As := [.int u9]) (rest := []) C hw hl.1 kX8_answer ml_X8_99 (c_X8_answer l G am as_ ar ac an ath ah _ m_am u9 u10 e10) (CutX.take mO_f CutX.none) _ (gx_h mO_o) rfl ⟨rfl, rfl⟩ ⟨Nat.le_of_ble_eq_true rfl, Nat.le_of_ble_eq_true rfl⟩ rfl ⟨Nat.zero_le _, Nat.zero_le _⟩ rfl (Nat.le_of_ble_eq_true rfl) dX8_about_151 (fun H locs hw => ?_)
      exact fin_i C hw (Option.some.inj hf) (fun o => o.1) (fun o => (mO G am as_ ar ac an ath ah o.2 ++ (sO G as_ s_as_ ++ (tO G an t_an ++ (pO G an p_an ++ (zO G an z_an ++ [])))))) rfl rfl dX8_about_154
    replace hf := ifn hf h6_
    rcases Decidable.em (x1 = 7) with hc | h7_
    · replace hf := ifp hf hc
      refine lv_tableIn (tgt := 155) C.1 C.2.1 dX8_about_22 (by rw [hc]; decide) (by rw [hc]; decide) (by rw [hc]; rfl) (by decide) ?_
      refine r_aload0 C hl 1 rfl dX8_about_155 ?_
      refine r_aload0 C hl 0 rfl dX8_about_156 ?_
      refine r_get C hw _ (gx_t (gx_t (gx_t (gx_h pO_o)))) 11 fl_X8_132 rfl dX8_about_157 ?_
      obtain ⟨u8, e8, hf⟩ := bx hf
      refine r_callVi (ws' := (mO G am as_ ar ac an ath ah u8.2 ++ (sO G as_ s_as_ ++ (tO G an t_an ++ (pO G an p_an ++ (zO G an z_an ++ [])))))) (As := [.int (gS p_an 11)]) (rest := []) C hw hl.1 kX8_answer ml_X8_99 (c_X8_answer l G am as_ ar ac an ath ah _ m_am (gS p_an 11) u8 e8) (CutX.take mO_f CutX.none) _ (gx_h mO_o) rfl ⟨rfl, rfl⟩ ⟨Nat.le_of_ble_eq_true rfl, Nat.le_of_ble_eq_true rfl⟩ rfl ⟨Nat.zero_le _, Nat.zero_le _⟩ rfl (Nat.le_of_ble_eq_true rfl) dX8_about_160 (fun H locs hw => ?_)
      exact fin_i C hw (Option.some.inj hf) (fun o => o.1) (fun o => (mO G am as_ ar ac an ath ah o.2 ++ (sO G as_ s_as_ ++ (tO G an t_an ++ (pO G an p_an ++ (zO G an z_an ++ [])))))) rfl rfl dX8_about_163
    replace hf := ifn hf h7_
    rcases Decidable.em (x1 = 8) with hc | h8_
    · replace hf := ifp hf hc
      refine lv_tableIn (tgt := 164) C.1 C.2.1 dX8_about_22 (by rw [hc]; decide) (by rw [hc]; decide) (by rw [hc]; rfl) (by decide) ?_
      refine r_aload0 C hl 1 rfl dX8_about_164 ?_
      refine r_aload0 C hl 0 rfl dX8_about_165 ?_
      refine lv_iconst (v := 1) C.1 C.2.1 dX8_about_166 (by decide) ?_
      obtain ⟨u6, e6, hf⟩ := bx hf
      refine r_callVi (ws' := (mO G am as_ ar ac an ath ah m_am ++ (sO G as_ s_as_ ++ (tO G an t_an ++ (pO G an p_an ++ (zO G an z_an ++ [])))))) (As := [.int 1]) (rest := [.ref (am 99)]) C hw hl.1 kX3_countAt ml_X8_135 (c_X3_countAt l G an _ p_an 1 u6 e6) (CutX.skip (CutX.skip (CutX.skip (CutX.take pO_f CutX.none)))) _ (gx_t (gx_t (gx_t (gx_h pO_o)))) rfl ⟨rfl, rfl⟩ ⟨Nat.le_of_ble_eq_true rfl, Nat.le_of_ble_eq_true rfl⟩ rfl ⟨Nat.zero_le _, Nat.zero_le _⟩ rfl (Nat.le_of_ble_eq_true rfl) dX8_about_167 (fun H locs hw => ?_)
      obtain ⟨u7, e7, hf⟩ := bx hf
      refine r_callVi (ws' := (mO G am as_ ar ac an ath ah u7.2 ++ (sO G as_ s_as_ ++ (tO G an t_an ++ (pO G an p_an ++ (zO G an z_an ++ [])))))) (As := [.int u6]) (rest := []) C hw hl.1 kX8_answer ml_X8_99 (c_X8_answer l G am as_ ar ac an ath ah _ m_am u6 u7 e7) (CutX.take mO_f CutX.none) _ (gx_h mO_o) rfl ⟨rfl, rfl⟩ ⟨Nat.le_of_ble_eq_true rfl, Nat.le_of_ble_eq_true rfl⟩ rfl ⟨Nat.zero_le _, Nat.zero_le _⟩ rfl (Nat.le_of_ble_eq_true rfl) dX8_about_170 (fun H locs hw => ?_)
      exact fin_i C hw (Option.some.inj hf) (fun o => o.1) (fun o => (mO G am as_ ar ac an ath ah o.2 ++ (sO G as_ s_as_ ++ (tO G an t_an ++ (pO G an p_an ++ (zO G an z_an ++ [])))))) rfl rfl dX8_about_173
    replace hf := ifn hf h8_
    rcases Decidable.em (x1 = 9) with hc | h9_
    · replace hf := ifp hf hc
      refine lv_tableIn (tgt := 174) C.1 C.2.1 dX8_about_22 (by rw [hc]; decide) (by rw [hc]; decide) (by rw [hc]; rfl) (by decide) ?_
      refine r_aload0 C hl 1 rfl dX8_about_174 ?_
      refine r_aload0 C hl 0 rfl dX8_about_175 ?_
      refine lv_iconst (v := 3) C.1 C.2.1 dX8_about_176 (by decide) ?_
      obtain ⟨u4, e4, hf⟩ := bx hf
      refine r_callVi (ws' := (mO G am as_ ar ac an ath ah m_am ++ (sO G as_ s_as_ ++ (tO G an t_an ++ (pO G an p_an ++ (zO G an z_an ++ [])))))) (As := [.int 3]) (rest := [.ref (am 99)]) C hw hl.1 kX3_countAt ml_X8_135 (c_X3_countAt l G an _ p_an 3 u4 e4) (CutX.skip (CutX.skip (CutX.skip (CutX.take pO_f CutX.none)))) _ (gx_t (gx_t (gx_t (gx_h pO_o)))) rfl ⟨rfl, rfl⟩ ⟨Nat.le_of_ble_eq_true rfl, Nat.le_of_ble_eq_true rfl⟩ rfl ⟨Nat.zero_le _, Nat.zero_le _⟩ rfl (Nat.le_of_ble_eq_true rfl) dX8_about_177 (fun H locs hw => ?_)
      obtain ⟨u5, e5, hf⟩ := bx hf
      refine r_callVi (ws' := (mO G am as_ ar ac an ath ah u5.2 ++ (sO G as_ s_as_ ++ (tO G an t_an ++ (pO G an p_an ++ (zO G an z_an ++ [])))))) (As := [.int u4]) (rest := []) C hw hl.1 kX8_answer ml_X8_99 (c_X8_answer l G am as_ ar ac an ath ah _ m_am u4 u5 e5) (CutX.take mO_f CutX.none) _ (gx_h mO_o) rfl ⟨rfl, rfl⟩ ⟨Nat.le_of_ble_eq_true rfl, Nat.le_of_ble_eq_true rfl⟩ rfl ⟨Nat.zero_le _, Nat.zero_le _⟩ rfl (Nat.le_of_ble_eq_true rfl) dX8_about_180 (fun H locs hw => ?_)
      exact fin_i C hw (Option.some.inj hf) (fun o => o.1) (fun o => (mO G am as_ ar ac an ath ah o.2 ++ (sO G as_ s_as_ ++ (tO G an t_an ++ (pO G an p_an ++ (zO G an z_an ++ [])))))) rfl rfl dX8_about_183
    replace hf := ifn hf h9_
    rcases Decidable.em (x1 = 10) with hc | h10_
    · replace hf := ifp hf hc
      refine lv_tableIn (tgt := 184) C.1 C.2.1 dX8_about_22 (by rw [hc]; decide) (by rw [hc]; decide) (by rw [hc]; rfl) (by decide) ?_
      refine r_aload0 C hl 1 rfl dX8_about_184 ?_
      refine r_aload0 C hl 0 rfl dX8_about_185 ?_
      obtain ⟨u2, e2, hf⟩ := bx hf
      refine r_callVi (ws' := (mO G am as_ ar ac an ath ah m_am ++ (sO G as_ s_as_ ++ (tO G an t_an ++ (pO G an p_an ++ (zO G an z_an ++ [])))))) (As := []) (rest := [.ref (am 99)]) C hw hl.1 kX3_unitsTaken ml_X8_138 (c_X3_unitsTaken l G an _ p_an u2 e2) (CutX.skip (CutX.skip (CutX.skip (CutX.take pO_f CutX.none)))) _ (gx_t (gx_t (gx_t (gx_h pO_o)))) rfl ⟨rfl, rfl⟩ ⟨Nat.le_of_ble_eq_true rfl, Nat.le_of_ble_eq_true rfl⟩ rfl ⟨Nat.zero_le _, Nat.zero_le _⟩ rfl (Nat.le_of_ble_eq_true rfl) dX8_about_186 (fun H locs hw => ?_)
      obtain ⟨u3, e3, hf⟩ := bx hf
      refine r_callVi (ws' := (mO G am as_ ar ac an ath ah u3.2 ++ (sO G as_ s_as_ ++ (tO G an t_an ++ (pO G an p_an ++ (zO G an z_an ++ [])))))) (As := [.int u2]) (rest := []) C hw hl.1 kX8_answer ml_X8_99 (c_X8_answer l G am as_ ar ac an ath ah _ m_am u2 u3 e3) (CutX.take mO_f CutX.none) _ (gx_h mO_o) rfl ⟨rfl, rfl⟩ ⟨Nat.le_of_ble_eq_true rfl, Nat.le_of_ble_eq_true rfl⟩ rfl ⟨Nat.zero_le _, Nat.zero_le _⟩ rfl (Nat.le_of_ble_eq_true rfl) dX8_about_189 (fun H locs hw => ?_)
      exact fin_i C hw (Option.some.inj hf) (fun o => o.1) (fun o => (mO G am as_ ar ac an ath ah o.2 ++ (sO G as_ s_as_ ++ (tO G an t_an ++ (pO G an p_an ++ (zO G an z_an ++ [])))))) rfl rfl dX8_about_192
    replace hf := ifn hf h10_
    refine lv_tableOut (tgt := 193) C.1 C.2.1 dX8_about_22 (sw_out11 h0_ h1_ h2_ h3_ h4_ h5_ h6_ h7_ h8_ h9_ h10_) (by decide) ?_
    refine r_aload0 C hl 1 rfl dX8_about_193 ?_
    refine lv_iconst (v := 1) C.1 C.2.1 dX8_about_194 (by decide) ?_
    obtain ⟨u1, e1, hf⟩ := bx hf
    refine r_callVi (ws' := (mO G am as_ ar ac an ath ah u1.2 ++ (sO G as_ s_as_ ++ (tO G an t_an ++ (pO G an p_an ++ (zO G an z_an ++ [])))))) (As := [.int 1]) (rest := []) C hw hl.1 kX8_refuse ml_X8_63 (c_X8_refuse l G am as_ ar ac an ath ah _ m_am 1 u1 e1) (CutX.take mO_f CutX.none) _ (gx_h mO_o) rfl ⟨rfl, rfl⟩ ⟨Nat.le_of_ble_eq_true rfl, Nat.le_of_ble_eq_true rfl⟩ rfl ⟨Nat.zero_le _, Nat.zero_le _⟩ rfl (Nat.le_of_ble_eq_true rfl) dX8_about_195 (fun H locs hw => ?_)
    exact fin_i C hw (Option.some.inj hf) (fun o => o.1) (fun o => (mO G am as_ ar ac an ath ah o.2 ++ (sO G as_ s_as_ ++ (tO G an t_an ++ (pO G an p_an ++ (zO G an z_an ++ [])))))) rfl rfl dX8_about_198
  · replace hf := ifp hf hc
    refine r_aload0 C hl 0 rfl dX8_about_7 ?_
    refine lv_iconst (v := 1) C.1 C.2.1 dX8_about_8 (by decide) ?_
    obtain ⟨u17, e17, hf⟩ := bx hf
    refine r_callVi (ws' := (mO G am as_ ar ac an ath ah u17.2 ++ (sO G as_ s_as_ ++ (tO G an t_an ++ (pO G an p_an ++ (zO G an z_an ++ [])))))) (As := [.int 1]) (rest := []) C hw hl.1 kX8_refuse ml_X8_63 (c_X8_refuse l G am as_ ar ac an ath ah _ m_am 1 u17 e17) (CutX.take mO_f CutX.none) _ (gx_h mO_o) rfl ⟨rfl, rfl⟩ ⟨Nat.le_of_ble_eq_true rfl, Nat.le_of_ble_eq_true rfl⟩ rfl ⟨Nat.zero_le _, Nat.zero_le _⟩ rfl (Nat.le_of_ble_eq_true rfl) dX8_about_9 (fun H locs hw => ?_)
    exact fin_i C hw (Option.some.inj hf) (fun o => o.1) (fun o => (mO G am as_ ar ac an ath ah o.2 ++ (sO G as_ s_as_ ++ (tO G an t_an ++ (pO G an p_an ++ (zO G an z_an ++ [])))))) rfl rfl dX8_about_12
set_option maxHeartbeats 4000000 in
set_option maxRecDepth 100000 in
theorem c_X8_cell (l : Launch) (G : GG) (am : Nat → Nat) (as_ : Nat → Nat) (ar : Nat → Nat) (ac : Nat → Nat) (an : Nat → Nat) (ath : Nat → Nat) (ah : Nat → Nat) (sz : Nat) (m_am : Pic) (s_as_ : Pic) (t_an : Pic) (e_an : Pic) (x1 : Int32) (x2 : Int32) (out : Int32 × Pic) (hf : f_X8_cell m_am s_as_ t_an e_an x1 x2 = some out) : Met l yX8_cell (.code yX8_cell cX8_cell 3 (some .int) :: BT) ({ frames := 1, cells := 0, slots := 0, locals := 21 }) (va_Pc [.ref (am 99), .int x1, .int x2] (PreW G sz (mO G am as_ ar ac an ath ah m_am ++ (sO G as_ s_as_ ++ (tO G an t_an ++ (eO G an e_an ++ [])))))) (Ans G out.1 (va_A (mO G am as_ ar ac an ath ah m_am ++ (sO G as_ s_as_ ++ (tO G an t_an ++ (eO G an e_an ++ [])))) sz) (mO G am as_ ar ac an ath ah out.2 ++ (sO G as_ s_as_ ++ (tO G an t_an ++ (eO G an e_an ++ []))))) 0 0 (va_A (mO G am as_ ar ac an ath ah m_am ++ (sO G as_ s_as_ ++ (tO G an t_an ++ (eO G an e_an ++ [])))) sz) := by
  refine Met.into (by decide) (Nat.le_of_ble_eq_true rfl) ?_
  intro p e s m below meth c C hsz ls hl hw
  have hl : lv_has ls 3 [(0, .ref (am 99)), (1, .int x1), (2, .int x2)] := hl
  clear hsz
  generalize va_A (mO G am as_ ar ac an ath ah m_am ++ (sO G as_ s_as_ ++ (tO G an t_an ++ (eO G an e_an ++ [])))) sz = A at hw ⊢
  have hB_15 : ∀ (m_am : Pic), b_X8_cell_15 s_as_ t_an e_an x1 x2  m_am = some out → ∀ (H : Heap) (locs : List Loc), Wd G A s H locs (mO G am as_ ar ac an ath ah m_am ++ (sO G as_ s_as_ ++ (tO G an t_an ++ (eO G an e_an ++ [])))) → ∀ ls : Array Slot, lv_has ls 3 [(0, .ref (am 99))] → W p l e ({ frames := 1, cells := 0, slots := 0, locals := 21 }) s m [.ref (am 99), .int x1, .int x2].toArray below meth c H locs 0 0 (MQ below (Ans G out.1 A (mO G am as_ ar ac an ath ah out.2 ++ (sO G as_ s_as_ ++ (tO G an t_an ++ (eO G an e_an ++ []))))) [.ref (am 99), .int x1, .int x2].toArray s 0 0 A) (F0 m 15 ls []) := by
    intro m_am hf H locs hw ls hl
    unfold b_X8_cell_15 at hf
    refine r_aload0 C hl 0 rfl dX8_cell_15 ?_
    refine lv_iconst (v := 1) C.1 C.2.1 dX8_cell_16 (by decide) ?_
    obtain ⟨u2, e2, hf⟩ := bx hf
    refine r_callVi (ws' := (mO G am as_ ar ac an ath ah u2.2 ++ (sO G as_ s_as_ ++ (tO G an t_an ++ (eO G an e_an ++ []))))) (As := [.int 1]) (rest := []) C hw hl.1 kX8_refuse ml_X8_63 (c_X8_refuse l G am as_ ar ac an ath ah _ m_am 1 u2 e2) (CutX.take mO_f CutX.none) _ (gx_h mO_o) rfl ⟨rfl, rfl⟩ ⟨Nat.le_of_ble_eq_true rfl, Nat.le_of_ble_eq_true rfl⟩ rfl ⟨Nat.zero_le _, Nat.zero_le _⟩ rfl (Nat.le_of_ble_eq_true rfl) dX8_cell_17 (fun H locs hw => ?_)
    exact fin_i C hw (Option.some.inj hf) (fun o => o.1) (fun o => (mO G am as_ ar ac an ath ah o.2 ++ (sO G as_ s_as_ ++ (tO G an t_an ++ (eO G an e_an ++ []))))) rfl rfl dX8_cell_20
  unfold f_X8_cell at hf
  refine r_aload0 C hl 0 rfl dX8_cell_0 ?_
  refine r_iload0 C hl 1 rfl dX8_cell_1 ?_
  obtain ⟨u1, e1, hf⟩ := bx hf
  refine r_callVi (ws' := (mO G am as_ ar ac an ath ah m_am ++ (sO G as_ s_as_ ++ (tO G an t_an ++ (eO G an e_an ++ []))))) (As := [.int x1]) (rest := []) C hw hl.1 kX8_noData ml_X8_141 (c_X8_noData l G am as_ ar ac an ath ah _ m_am s_as_ x1 u1 e1) (CutX.take mO_f (CutX.take sO_f CutX.none)) _ (gx_h mO_o) rfl ⟨rfl, rfl⟩ ⟨Nat.le_of_ble_eq_true rfl, Nat.le_of_ble_eq_true rfl⟩ rfl ⟨Nat.zero_le _, Nat.zero_le _⟩ rfl (Nat.le_of_ble_eq_true rfl) dX8_cell_2 (fun H locs hw => ?_)
  refine lv_if_ne (tgt := 15) C.1 C.2.1 dX8_cell_5 (by decide) (fun hc => ?_) (fun hc => ?_)
  · replace hf := ifn hf hc
    exact hB_15  m_am hf _ _ hw _ (lv_sub hl [0] rfl)
  · replace hf := ifp hf hc
    refine r_iload0 C hl 2 rfl dX8_cell_8 ?_
    obtain ⟨u3, e3, hf⟩ := bx hf
    refine r_callSi (ws' := (mO G am as_ ar ac an ath ah m_am ++ (sO G as_ s_as_ ++ (tO G an t_an ++ (eO G an e_an ++ []))))) (As := [.int x2]) (rest := []) C hw hl.1 kX8_noCell ml_X8_145 (c_X8_noCell l G _ x2 u3 e3) CutX.none ⟨rfl, rfl⟩ ⟨Nat.le_of_ble_eq_true rfl, Nat.le_of_ble_eq_true rfl⟩ rfl ⟨Nat.zero_le _, Nat.zero_le _⟩ rfl (Nat.le_of_ble_eq_true rfl) dX8_cell_9 (fun H locs hw => ?_)
    refine lv_if_eq (tgt := 21) C.1 C.2.1 dX8_cell_12 (by decide) (fun hc => ?_) (fun hc => ?_)
    · replace hf := ifp hf hc
      refine r_aload0 C hl 0 rfl dX8_cell_21 ?_
      refine r_aload0 C hl 0 rfl dX8_cell_22 ?_
      refine r_get C hw _ (gx_h mO_o) 9 fl_X8_37 rfl dX8_cell_23 ?_
      refine r_get C hw _ (gx_t (gx_t (gx_h tO_o))) 0 fl_X8_148 rfl dX8_cell_26 ?_
      refine r_iload0 C hl 1 rfl dX8_cell_29 ?_
      refine lv_bipush (v := 16) C.1 C.2.1 dX8_cell_30 (by decide) ?_
      refine lv_imul C.1 C.2.1 dX8_cell_32 ?_
      refine r_iload0 C hl 2 rfl dX8_cell_33 ?_
      refine lv_iadd C.1 C.2.1 dX8_cell_34 ?_
      obtain ⟨v4_, e4, hf⟩ := bx hf
      refine r_iald C hw _ (gx_t (gx_t (gx_t (gx_h eO_g0)))) e4 dX8_cell_35 ?_
      obtain ⟨u5, e5, hf⟩ := bx hf
      refine r_callVi (ws' := (mO G am as_ ar ac an ath ah u5.2 ++ (sO G as_ s_as_ ++ (tO G an t_an ++ (eO G an e_an ++ []))))) (As := [.int v4_]) (rest := []) C hw hl.1 kX8_answer ml_X8_99 (c_X8_answer l G am as_ ar ac an ath ah _ m_am v4_ u5 e5) (CutX.take mO_f CutX.none) _ (gx_h mO_o) rfl ⟨rfl, rfl⟩ ⟨Nat.le_of_ble_eq_true rfl, Nat.le_of_ble_eq_true rfl⟩ rfl ⟨Nat.zero_le _, Nat.zero_le _⟩ rfl (Nat.le_of_ble_eq_true rfl) dX8_cell_36 (fun H locs hw => ?_)
      exact fin_i C hw (Option.some.inj hf) (fun o => o.1) (fun o => (mO G am as_ ar ac an ath ah o.2 ++ (sO G as_ s_as_ ++ (tO G an t_an ++ (eO G an e_an ++ []))))) rfl rfl dX8_cell_39
    · replace hf := ifn hf hc
      exact hB_15  m_am hf _ _ hw _ (lv_sub hl [0] rfl)
set_option maxHeartbeats 4000000 in
set_option maxRecDepth 100000 in
theorem c_X8_squeezed (l : Launch) (G : GG) (am : Nat → Nat) (as_ : Nat → Nat) (ar : Nat → Nat) (ac : Nat → Nat) (an : Nat → Nat) (ath : Nat → Nat) (ah : Nat → Nat) (sz : Nat) (m_am : Pic) (s_as_ : Pic) (t_an : Pic) (x1 : Int32) (out : Int32 × Pic) (hf : f_X8_squeezed m_am s_as_ t_an x1 = some out) : Met l yX8_squeezed (.code yX8_squeezed cX8_squeezed 2 (some .int) :: BT) ({ frames := 1, cells := 0, slots := 0, locals := 21 }) (va_Pc [.ref (am 99), .int x1] (PreW G sz (mO G am as_ ar ac an ath ah m_am ++ (sO G as_ s_as_ ++ (tO G an t_an ++ []))))) (Ans G out.1 (va_A (mO G am as_ ar ac an ath ah m_am ++ (sO G as_ s_as_ ++ (tO G an t_an ++ []))) sz) (mO G am as_ ar ac an ath ah out.2 ++ (sO G as_ s_as_ ++ (tO G an t_an ++ [])))) 0 0 (va_A (mO G am as_ ar ac an ath ah m_am ++ (sO G as_ s_as_ ++ (tO G an t_an ++ []))) sz) := by
  refine Met.into (by decide) (Nat.le_of_ble_eq_true rfl) ?_
  intro p e s m below meth c C hsz ls hl hw
  have hl : lv_has ls 2 [(0, .ref (am 99)), (1, .int x1)] := hl
  clear hsz
  generalize va_A (mO G am as_ ar ac an ath ah m_am ++ (sO G as_ s_as_ ++ (tO G an t_an ++ []))) sz = A at hw ⊢
  unfold f_X8_squeezed at hf
  refine r_aload0 C hl 0 rfl dX8_squeezed_0 ?_
  refine r_iload0 C hl 1 rfl dX8_squeezed_1 ?_
  obtain ⟨u1, e1, hf⟩ := bx hf
  refine r_callVi (ws' := (mO G am as_ ar ac an ath ah m_am ++ (sO G as_ s_as_ ++ (tO G an t_an ++ [])))) (As := [.int x1]) (rest := []) C hw hl.1 kX8_noData ml_X8_141 (c_X8_noData l G am as_ ar ac an ath ah _ m_am s_as_ x1 u1 e1) (CutX.take mO_f (CutX.take sO_f CutX.none)) _ (gx_h mO_o) rfl ⟨rfl, rfl⟩ ⟨Nat.le_of_ble_eq_true rfl, Nat.le_of_ble_eq_true rfl⟩ rfl ⟨Nat.zero_le _, Nat.zero_le _⟩ rfl (Nat.le_of_ble_eq_true rfl) dX8_squeezed_2 (fun H locs hw => ?_)
  refine lv_if_eq (tgt := 14) C.1 C.2.1 dX8_squeezed_5 (by decide) (fun hc => ?_) (fun hc => ?_)
  · replace hf := ifp hf hc
    refine r_aload0 C hl 0 rfl dX8_squeezed_14 ?_
    refine r_aload0 C hl 0 rfl dX8_squeezed_15 ?_
    refine r_get C hw _ (gx_h mO_o) 9 fl_X8_37 rfl dX8_squeezed_16 ?_
    refine r_get C hw _ (gx_t (gx_t (gx_h tO_o))) 1 fl_X8_151 rfl dX8_squeezed_19 ?_
    refine r_iload0 C hl 1 rfl dX8_squeezed_22 ?_
    obtain ⟨v2_, e2, hf⟩ := bx hf
    refine r_iald C hw _ (gx_t (gx_t (gx_h tO_g1))) e2 dX8_squeezed_23 ?_
    obtain ⟨u3, e3, hf⟩ := bx hf
    refine r_callVi (ws' := (mO G am as_ ar ac an ath ah u3.2 ++ (sO G as_ s_as_ ++ (tO G an t_an ++ [])))) (As := [.int v2_]) (rest := []) C hw hl.1 kX8_answer ml_X8_99 (c_X8_answer l G am as_ ar ac an ath ah _ m_am v2_ u3 e3) (CutX.take mO_f CutX.none) _ (gx_h mO_o) rfl ⟨rfl, rfl⟩ ⟨Nat.le_of_ble_eq_true rfl, Nat.le_of_ble_eq_true rfl⟩ rfl ⟨Nat.zero_le _, Nat.zero_le _⟩ rfl (Nat.le_of_ble_eq_true rfl) dX8_squeezed_24 (fun H locs hw => ?_)
    exact fin_i C hw (Option.some.inj hf) (fun o => o.1) (fun o => (mO G am as_ ar ac an ath ah o.2 ++ (sO G as_ s_as_ ++ (tO G an t_an ++ [])))) rfl rfl dX8_squeezed_27
  · replace hf := ifn hf hc
    refine r_aload0 C hl 0 rfl dX8_squeezed_8 ?_
    refine lv_iconst (v := 1) C.1 C.2.1 dX8_squeezed_9 (by decide) ?_
    obtain ⟨u4, e4, hf⟩ := bx hf
    refine r_callVi (ws' := (mO G am as_ ar ac an ath ah u4.2 ++ (sO G as_ s_as_ ++ (tO G an t_an ++ [])))) (As := [.int 1]) (rest := []) C hw hl.1 kX8_refuse ml_X8_63 (c_X8_refuse l G am as_ ar ac an ath ah _ m_am 1 u4 e4) (CutX.take mO_f CutX.none) _ (gx_h mO_o) rfl ⟨rfl, rfl⟩ ⟨Nat.le_of_ble_eq_true rfl, Nat.le_of_ble_eq_true rfl⟩ rfl ⟨Nat.zero_le _, Nat.zero_le _⟩ rfl (Nat.le_of_ble_eq_true rfl) dX8_squeezed_10 (fun H locs hw => ?_)
    exact fin_i C hw (Option.some.inj hf) (fun o => o.1) (fun o => (mO G am as_ ar ac an ath ah o.2 ++ (sO G as_ s_as_ ++ (tO G an t_an ++ [])))) rfl rfl dX8_squeezed_13
set_option maxHeartbeats 4000000 in
set_option maxRecDepth 100000 in
theorem c_X8_pieces (l : Launch) (G : GG) (am : Nat → Nat) (as_ : Nat → Nat) (ar : Nat → Nat) (ac : Nat → Nat) (an : Nat → Nat) (ath : Nat → Nat) (ah : Nat → Nat) (sz : Nat) (m_am : Pic) (s_as_ : Pic) (c_ac : Pic) (t_an : Pic) (e_an : Pic) (x1 : Int32) (out : Int32 × Pic × Pic) (hf : f_X8_pieces m_am s_as_ c_ac t_an e_an x1 = some out) : Met l yX8_pieces (.code yX8_pieces cX8_pieces 2 (some .int) :: BT) ({ frames := 5, cells := 0, slots := 0, locals := 116 }) (va_Pc [.ref (am 99), .int x1] (PreW G sz (mO G am as_ ar ac an ath ah m_am ++ (sO G as_ s_as_ ++ (cO G ac c_ac ++ (tO G an t_an ++ (eO G an e_an ++ []))))))) (Ans G out.1 (va_A (mO G am as_ ar ac an ath ah m_am ++ (sO G as_ s_as_ ++ (cO G ac c_ac ++ (tO G an t_an ++ (eO G an e_an ++ []))))) sz) (mO G am as_ ar ac an ath ah out.2.1 ++ (sO G as_ s_as_ ++ (cO G ac out.2.2 ++ (tO G an t_an ++ (eO G an e_an ++ [])))))) 0 0 (va_A (mO G am as_ ar ac an ath ah m_am ++ (sO G as_ s_as_ ++ (cO G ac c_ac ++ (tO G an t_an ++ (eO G an e_an ++ []))))) sz) := by
  refine Met.into (by decide) (Nat.le_of_ble_eq_true rfl) ?_
  intro p e s m below meth c C hsz ls hl hw
  have hl : lv_has ls 2 [(0, .ref (am 99)), (1, .int x1)] := hl
  clear hsz
  generalize va_A (mO G am as_ ar ac an ath ah m_am ++ (sO G as_ s_as_ ++ (cO G ac c_ac ++ (tO G an t_an ++ (eO G an e_an ++ []))))) sz = A at hw ⊢
  unfold f_X8_pieces at hf
  refine r_aload0 C hl 0 rfl dX8_pieces_0 ?_
  refine r_iload0 C hl 1 rfl dX8_pieces_1 ?_
  obtain ⟨u1, e1, hf⟩ := bx hf
  refine r_callVi (ws' := (mO G am as_ ar ac an ath ah m_am ++ (sO G as_ s_as_ ++ (cO G ac c_ac ++ (tO G an t_an ++ (eO G an e_an ++ [])))))) (As := [.int x1]) (rest := []) C hw hl.1 kX8_noData ml_X8_141 (c_X8_noData l G am as_ ar ac an ath ah _ m_am s_as_ x1 u1 e1) (CutX.take mO_f (CutX.take sO_f CutX.none)) _ (gx_h mO_o) rfl ⟨rfl, rfl⟩ ⟨Nat.le_of_ble_eq_true rfl, Nat.le_of_ble_eq_true rfl⟩ rfl ⟨Nat.zero_le _, Nat.zero_le _⟩ rfl (Nat.le_of_ble_eq_true rfl) dX8_pieces_2 (fun H locs hw => ?_)
  refine lv_if_eq (tgt := 14) C.1 C.2.1 dX8_pieces_5 (by decide) (fun hc => ?_) (fun hc => ?_)
  · replace hf := ifp hf hc
    refine r_aload0 C hl 0 rfl dX8_pieces_14 ?_
    refine r_iload0 C hl 1 rfl dX8_pieces_15 ?_
    obtain ⟨u2, e2, hf⟩ := bx hf
    refine r_callVv (ws' := (mO G am as_ ar ac an ath ah m_am ++ (sO G as_ s_as_ ++ (cO G ac u2 ++ (tO G an t_an ++ (eO G an e_an ++ [])))))) (As := [.int x1]) (rest := []) C hw hl.1 kX8_cutData ml_X8_154 (c_X8_cutData l G am as_ ar ac an ath ah _ m_am c_ac t_an e_an x1 u2 e2) (CutX.take mO_f (CutX.skip (CutX.take cO_f (CutX.take tO_f (CutX.take eO_f CutX.none))))) _ (gx_h mO_o) rfl ⟨rfl, rfl⟩ ⟨Nat.le_of_ble_eq_true rfl, Nat.le_of_ble_eq_true rfl⟩ rfl ⟨Nat.zero_le _, Nat.zero_le _⟩ rfl (Nat.le_of_ble_eq_true rfl) dX8_pieces_16 (fun H locs hw => ?_)
    refine r_aload0 C hl 0 rfl dX8_pieces_19 ?_
    refine r_aload0 C hl 0 rfl dX8_pieces_20 ?_
    refine r_get C hw _ (gx_h mO_o) 8 fl_X8_30 rfl dX8_pieces_21 ?_
    refine r_get C hw _ (gx_t (gx_t (gx_h cO_o))) 7 fl_X8_157 rfl dX8_pieces_24 ?_
    obtain ⟨u3, e3, hf⟩ := bx hf
    refine r_callVi (ws' := (mO G am as_ ar ac an ath ah u3.2 ++ (sO G as_ s_as_ ++ (cO G ac u2 ++ (tO G an t_an ++ (eO G an e_an ++ [])))))) (As := [.int (gS u2 7)]) (rest := []) C hw hl.1 kX8_answer ml_X8_99 (c_X8_answer l G am as_ ar ac an ath ah _ m_am (gS u2 7) u3 e3) (CutX.take mO_f CutX.none) _ (gx_h mO_o) rfl ⟨rfl, rfl⟩ ⟨Nat.le_of_ble_eq_true rfl, Nat.le_of_ble_eq_true rfl⟩ rfl ⟨Nat.zero_le _, Nat.zero_le _⟩ rfl (Nat.le_of_ble_eq_true rfl) dX8_pieces_27 (fun H locs hw => ?_)
    exact fin_i C hw (Option.some.inj hf) (fun o => o.1) (fun o => (mO G am as_ ar ac an ath ah o.2.1 ++ (sO G as_ s_as_ ++ (cO G ac o.2.2 ++ (tO G an t_an ++ (eO G an e_an ++ [])))))) rfl rfl dX8_pieces_30
  · replace hf := ifn hf hc
    refine r_aload0 C hl 0 rfl dX8_pieces_8 ?_
    refine lv_iconst (v := 1) C.1 C.2.1 dX8_pieces_9 (by decide) ?_
    obtain ⟨u4, e4, hf⟩ := bx hf
    refine r_callVi (ws' := (mO G am as_ ar ac an ath ah u4.2 ++ (sO G as_ s_as_ ++ (cO G ac c_ac ++ (tO G an t_an ++ (eO G an e_an ++ [])))))) (As := [.int 1]) (rest := []) C hw hl.1 kX8_refuse ml_X8_63 (c_X8_refuse l G am as_ ar ac an ath ah _ m_am 1 u4 e4) (CutX.take mO_f CutX.none) _ (gx_h mO_o) rfl ⟨rfl, rfl⟩ ⟨Nat.le_of_ble_eq_true rfl, Nat.le_of_ble_eq_true rfl⟩ rfl ⟨Nat.zero_le _, Nat.zero_le _⟩ rfl (Nat.le_of_ble_eq_true rfl) dX8_pieces_10 (fun H locs hw => ?_)
    exact fin_i C hw (Option.some.inj hf) (fun o => o.1) (fun o => (mO G am as_ ar ac an ath ah o.2.1 ++ (sO G as_ s_as_ ++ (cO G ac o.2.2 ++ (tO G an t_an ++ (eO G an e_an ++ [])))))) rfl rfl dX8_pieces_13
set_option maxHeartbeats 4000000 in
set_option maxRecDepth 100000 in
theorem c_X8_piece (l : Launch) (G : GG) (am : Nat → Nat) (as_ : Nat → Nat) (ar : Nat → Nat) (ac : Nat → Nat) (an : Nat → Nat) (ath : Nat → Nat) (ah : Nat → Nat) (sz : Nat) (m_am : Pic) (s_as_ : Pic) (c_ac : Pic) (t_an : Pic) (e_an : Pic) (x1 : Int32) (x2 : Int32) (x3 : Int32) (out : Int32 × Pic × Pic) (hf : f_X8_piece m_am s_as_ c_ac t_an e_an x1 x2 x3 = some out) : Met l yX8_piece (.code yX8_piece cX8_piece 4 (some .int) :: BT) ({ frames := 5, cells := 0, slots := 0, locals := 116 }) (va_Pc [.ref (am 99), .int x1, .int x2, .int x3] (PreW G sz (mO G am as_ ar ac an ath ah m_am ++ (sO G as_ s_as_ ++ (cO G ac c_ac ++ (tO G an t_an ++ (eO G an e_an ++ []))))))) (Ans G out.1 (va_A (mO G am as_ ar ac an ath ah m_am ++ (sO G as_ s_as_ ++ (cO G ac c_ac ++ (tO G an t_an ++ (eO G an e_an ++ []))))) sz) (mO G am as_ ar ac an ath ah out.2.1 ++ (sO G as_ s_as_ ++ (cO G ac out.2.2 ++ (tO G an t_an ++ (eO G an e_an ++ [])))))) 0 0 (va_A (mO G am as_ ar ac an ath ah m_am ++ (sO G as_ s_as_ ++ (cO G ac c_ac ++ (tO G an t_an ++ (eO G an e_an ++ []))))) sz) := by
  refine Met.into (by decide) (Nat.le_of_ble_eq_true rfl) ?_
  intro p e s m below meth c C hsz ls hl hw
  have hl : lv_has ls 4 [(0, .ref (am 99)), (1, .int x1), (2, .int x2), (3, .int x3)] := hl
  clear hsz
  generalize va_A (mO G am as_ ar ac an ath ah m_am ++ (sO G as_ s_as_ ++ (cO G ac c_ac ++ (tO G an t_an ++ (eO G an e_an ++ []))))) sz = A at hw ⊢
  have hB_34 : ∀ (m_am : Pic) (c_ac : Pic), b_X8_piece_34 s_as_ t_an e_an x1 x2 x3  m_am c_ac = some out → ∀ (H : Heap) (locs : List Loc), Wd G A s H locs (mO G am as_ ar ac an ath ah m_am ++ (sO G as_ s_as_ ++ (cO G ac c_ac ++ (tO G an t_an ++ (eO G an e_an ++ []))))) → ∀ ls : Array Slot, lv_has ls 4 [(0, .ref (am 99))] → W p l e ({ frames := 5, cells := 0, slots := 0, locals := 116 }) s m [.ref (am 99), .int x1, .int x2, .int x3].toArray below meth c H locs 0 0 (MQ below (Ans G out.1 A (mO G am as_ ar ac an ath ah out.2.1 ++ (sO G as_ s_as_ ++ (cO G ac out.2.2 ++ (tO G an t_an ++ (eO G an e_an ++ [])))))) [.ref (am 99), .int x1, .int x2, .int x3].toArray s 0 0 A) (F0 m 34 ls []) := by
    intro m_am c_ac hf H locs hw ls hl
    unfold b_X8_piece_34 at hf
    refine r_aload0 C hl 0 rfl dX8_piece_34 ?_
    refine lv_iconst (v := 1) C.1 C.2.1 dX8_piece_35 (by decide) ?_
    obtain ⟨u3, e3, hf⟩ := bx hf
    refine r_callVi (ws' := (mO G am as_ ar ac an ath ah u3.2 ++ (sO G as_ s_as_ ++ (cO G ac c_ac ++ (tO G an t_an ++ (eO G an e_an ++ [])))))) (As := [.int 1]) (rest := []) C hw hl.1 kX8_refuse ml_X8_63 (c_X8_refuse l G am as_ ar ac an ath ah _ m_am 1 u3 e3) (CutX.take mO_f CutX.none) _ (gx_h mO_o) rfl ⟨rfl, rfl⟩ ⟨Nat.le_of_ble_eq_true rfl, Nat.le_of_ble_eq_true rfl⟩ rfl ⟨Nat.zero_le _, Nat.zero_le _⟩ rfl (Nat.le_of_ble_eq_true rfl) dX8_piece_36 (fun H locs hw => ?_)
    exact fin_i C hw (Option.some.inj hf) (fun o => o.1) (fun o => (mO G am as_ ar ac an ath ah o.2.1 ++ (sO G as_ s_as_ ++ (cO G ac o.2.2 ++ (tO G an t_an ++ (eO G an e_an ++ [])))))) rfl rfl dX8_piece_39
  unfold f_X8_piece at hf
  refine r_aload0 C hl 0 rfl dX8_piece_0 ?_
  refine r_iload0 C hl 1 rfl dX8_piece_1 ?_
  obtain ⟨u1, e1, hf⟩ := bx hf
  refine r_callVi (ws' := (mO G am as_ ar ac an ath ah m_am ++ (sO G as_ s_as_ ++ (cO G ac c_ac ++ (tO G an t_an ++ (eO G an e_an ++ [])))))) (As := [.int x1]) (rest := []) C hw hl.1 kX8_noData ml_X8_141 (c_X8_noData l G am as_ ar ac an ath ah _ m_am s_as_ x1 u1 e1) (CutX.take mO_f (CutX.take sO_f CutX.none)) _ (gx_h mO_o) rfl ⟨rfl, rfl⟩ ⟨Nat.le_of_ble_eq_true rfl, Nat.le_of_ble_eq_true rfl⟩ rfl ⟨Nat.zero_le _, Nat.zero_le _⟩ rfl (Nat.le_of_ble_eq_true rfl) dX8_piece_2 (fun H locs hw => ?_)
  refine lv_if_eq (tgt := 14) C.1 C.2.1 dX8_piece_5 (by decide) (fun hc => ?_) (fun hc => ?_)
  · replace hf := ifp hf hc
    refine r_aload0 C hl 0 rfl dX8_piece_14 ?_
    refine r_iload0 C hl 1 rfl dX8_piece_15 ?_
    obtain ⟨u2, e2, hf⟩ := bx hf
    refine r_callVv (ws' := (mO G am as_ ar ac an ath ah m_am ++ (sO G as_ s_as_ ++ (cO G ac u2 ++ (tO G an t_an ++ (eO G an e_an ++ [])))))) (As := [.int x1]) (rest := []) C hw hl.1 kX8_cutData ml_X8_154 (c_X8_cutData l G am as_ ar ac an ath ah _ m_am c_ac t_an e_an x1 u2 e2) (CutX.take mO_f (CutX.skip (CutX.take cO_f (CutX.take tO_f (CutX.take eO_f CutX.none))))) _ (gx_h mO_o) rfl ⟨rfl, rfl⟩ ⟨Nat.le_of_ble_eq_true rfl, Nat.le_of_ble_eq_true rfl⟩ rfl ⟨Nat.zero_le _, Nat.zero_le _⟩ rfl (Nat.le_of_ble_eq_true rfl) dX8_piece_16 (fun H locs hw => ?_)
    refine r_iload0 C hl 2 rfl dX8_piece_19 ?_
    refine lv_if_lt (tgt := 34) C.1 C.2.1 dX8_piece_20 (by decide) (fun hc => ?_) (fun hc => ?_)
    · replace hf := ifp hf hc
      exact hB_34  m_am u2 hf _ _ hw _ (lv_sub hl [0] rfl)
    · replace hf := ifn hf hc
      refine r_iload0 C hl 2 rfl dX8_piece_23 ?_
      refine r_aload0 C hl 0 rfl dX8_piece_24 ?_
      refine r_get C hw _ (gx_h mO_o) 8 fl_X8_30 rfl dX8_piece_25 ?_
      refine r_get C hw _ (gx_t (gx_t (gx_h cO_o))) 7 fl_X8_157 rfl dX8_piece_28 ?_
      refine lv_icmp_lt (tgt := 40) C.1 C.2.1 dX8_piece_31 (by decide) (fun hc => ?_) (fun hc => ?_)
      · replace hf := ifp hf hc
        refine r_iload0 C hl 3 rfl dX8_piece_40 ?_
        rcases Decidable.em (x3 = 0) with hc | h0_
        · replace hf := ifp hf hc
          refine lv_tableIn (tgt := 72) C.1 C.2.1 dX8_piece_41 (by rw [hc]; decide) (by rw [hc]; decide) (by rw [hc]; rfl) (by decide) ?_
          refine r_aload0 C hl 0 rfl dX8_piece_72 ?_
          refine r_aload0 C hl 0 rfl dX8_piece_73 ?_
          refine r_get C hw _ (gx_h mO_o) 8 fl_X8_30 rfl dX8_piece_74 ?_
          refine r_get C hw _ (gx_t (gx_t (gx_h cO_o))) 3 fl_X8_160 rfl dX8_piece_77 ?_
          refine r_iload0 C hl 2 rfl dX8_piece_80 ?_
          obtain ⟨v11_, e11, hf⟩ := bx hf
          refine r_iald C hw _ (gx_t (gx_t (gx_h cO_g3))) e11 dX8_piece_81 ?_
          obtain ⟨u12, e12, hf⟩ := bx hf
          refine r_callVi (ws' := (mO G am as_ ar ac an ath ah u12.2 ++ (sO G as_ s_as_ ++ (cO G ac u2 ++ (tO G an t_an ++ (eO G an e_an ++ [])))))) (As := [.int v11_]) (rest := []) C hw hl.1 kX8_answer ml_X8_99 (c_X8_answer l G am as_ ar ac an ath ah _ m_am v11_ u12 e12) (CutX.take mO_f CutX.none) _ (gx_h mO_o) rfl ⟨rfl, rfl⟩ ⟨Nat.le_of_ble_eq_true rfl, Nat.le_of_ble_eq_true rfl⟩ rfl ⟨Nat.zero_le _, Nat.zero_le _⟩ rfl (Nat.le_of_ble_eq_true rfl) dX8_piece_82 (fun H locs hw => ?_)
          exact fin_i C hw (Option.some.inj hf) (fun o => o.1) (fun o => (mO G am as_ ar ac an ath ah o.2.1 ++ (sO G as_ s_as_ ++ (cO G ac o.2.2 ++ (tO G an t_an ++ (eO G an e_an ++ [])))))) rfl rfl dX8_piece_85
        replace hf := ifn hf h0_
        rcases Decidable.em (x3 = 1) with hc | h1_
        · replace hf := ifp hf hc
          refine lv_tableIn (tgt := 86) C.1 C.2.1 dX8_piece_41 (by rw [hc]; decide) (by rw [hc]; decide) (by rw [hc]; rfl) (by decide) ?_
          refine r_aload0 C hl 0 rfl dX8_piece_86 ?_
          refine r_aload0 C hl 0 rfl dX8_piece_87 ?_
          refine r_get C hw _ (gx_h mO_o) 8 fl_X8_30 rfl dX8_piece_88 ?_
          refine r_get C hw _ (gx_t (gx_t (gx_h cO_o))) 4 fl_X8_163 rfl dX8_piece_91 ?_
          refine r_iload0 C hl 2 rfl dX8_piece_94 ?_
          obtain ⟨v9_, e9, hf⟩ := bx hf
          refine r_iald C hw _ (gx_t (gx_t (gx_h cO_g4))) e9 dX8_piece_95 ?_
          obtain ⟨u10, e10, hf⟩ := bx hf
          refine r_callVi (ws' := (mO G am as_ ar ac an ath ah u10.2 ++ (sO G as_ s_as_ ++ (cO G ac u2 ++ (tO G an t_an ++ (eO G an e_an ++ [])))))) (As := [.int v9_]) (rest := []) C hw hl.1 kX8_answer ml_X8_99 (c_X8_answer l G am as_ ar ac an ath ah _ m_am v9_ u10 e10) (CutX.take mO_f CutX.none) _ (gx_h mO_o) rfl ⟨rfl, rfl⟩ ⟨Nat.le_of_ble_eq_true rfl, Nat.le_of_ble_eq_true rfl⟩ rfl ⟨Nat.zero_le _, Nat.zero_le _⟩ rfl (Nat.le_of_ble_eq_true rfl) dX8_piece_96 (fun H locs hw => ?_)
          exact fin_i C hw (Option.some.inj hf) (fun o => o.1) (fun o => (mO G am as_ ar ac an ath ah o.2.1 ++ (sO G as_ s_as_ ++ (cO G ac o.2.2 ++ (tO G an t_an ++ (eO G an e_an ++ [])))))) rfl rfl dX8_piece_99
        replace hf := ifn hf h1_
        rcases Decidable.em (x3 = 2) with hc | h2_
        · replace hf := ifp hf hc
          refine lv_tableIn (tgt := 100) C.1 C.2.1 dX8_piece_41 (by rw [hc]; decide) (by rw [hc]; decide) (by rw [hc]; rfl) (by decide) ?_
          refine r_aload0 C hl 0 rfl dX8_piece_100 ?_
          refine r_aload0 C hl 0 rfl dX8_piece_101 ?_
          refine r_get C hw _ (gx_h mO_o) 8 fl_X8_30 rfl dX8_piece_102 ?_
          refine r_get C hw _ (gx_t (gx_t (gx_h cO_o))) 5 fl_X8_166 rfl dX8_piece_105 ?_
          refine r_iload0 C hl 2 rfl dX8_piece_108 ?_
          obtain ⟨v7_, e7, hf⟩ := bx hf
          refine r_iald C hw _ (gx_t (gx_t (gx_h cO_g5))) e7 dX8_piece_109 ?_
          obtain ⟨u8, e8, hf⟩ := bx hf
          refine r_callVi (ws' := (mO G am as_ ar ac an ath ah u8.2 ++ (sO G as_ s_as_ ++ (cO G ac u2 ++ (tO G an t_an ++ (eO G an e_an ++ [])))))) (As := [.int v7_]) (rest := []) C hw hl.1 kX8_answer ml_X8_99 (c_X8_answer l G am as_ ar ac an ath ah _ m_am v7_ u8 e8) (CutX.take mO_f CutX.none) _ (gx_h mO_o) rfl ⟨rfl, rfl⟩ ⟨Nat.le_of_ble_eq_true rfl, Nat.le_of_ble_eq_true rfl⟩ rfl ⟨Nat.zero_le _, Nat.zero_le _⟩ rfl (Nat.le_of_ble_eq_true rfl) dX8_piece_110 (fun H locs hw => ?_)
          exact fin_i C hw (Option.some.inj hf) (fun o => o.1) (fun o => (mO G am as_ ar ac an ath ah o.2.1 ++ (sO G as_ s_as_ ++ (cO G ac o.2.2 ++ (tO G an t_an ++ (eO G an e_an ++ [])))))) rfl rfl dX8_piece_113
        replace hf := ifn hf h2_
        rcases Decidable.em (x3 = 3) with hc | h3_
        · replace hf := ifp hf hc
          refine lv_tableIn (tgt := 114) C.1 C.2.1 dX8_piece_41 (by rw [hc]; decide) (by rw [hc]; decide) (by rw [hc]; rfl) (by decide) ?_
          refine r_aload0 C hl 0 rfl dX8_piece_114 ?_
          refine r_aload0 C hl 0 rfl dX8_piece_115 ?_
          refine r_get C hw _ (gx_h mO_o) 8 fl_X8_30 rfl dX8_piece_116 ?_
          refine r_get C hw _ (gx_t (gx_t (gx_h cO_o))) 6 fl_X8_169 rfl dX8_piece_119 ?_
          refine r_iload0 C hl 2 rfl dX8_piece_122 ?_
          obtain ⟨v5_, e5, hf⟩ := bx hf
          refine r_iald C hw _ (gx_t (gx_t (gx_h cO_g6))) e5 dX8_piece_123 ?_
          obtain ⟨u6, e6, hf⟩ := bx hf
          refine r_callVi (ws' := (mO G am as_ ar ac an ath ah u6.2 ++ (sO G as_ s_as_ ++ (cO G ac u2 ++ (tO G an t_an ++ (eO G an e_an ++ [])))))) (As := [.int v5_]) (rest := []) C hw hl.1 kX8_answer ml_X8_99 (c_X8_answer l G am as_ ar ac an ath ah _ m_am v5_ u6 e6) (CutX.take mO_f CutX.none) _ (gx_h mO_o) rfl ⟨rfl, rfl⟩ ⟨Nat.le_of_ble_eq_true rfl, Nat.le_of_ble_eq_true rfl⟩ rfl ⟨Nat.zero_le _, Nat.zero_le _⟩ rfl (Nat.le_of_ble_eq_true rfl) dX8_piece_124 (fun H locs hw => ?_)
          exact fin_i C hw (Option.some.inj hf) (fun o => o.1) (fun o => (mO G am as_ ar ac an ath ah o.2.1 ++ (sO G as_ s_as_ ++ (cO G ac o.2.2 ++ (tO G an t_an ++ (eO G an e_an ++ [])))))) rfl rfl dX8_piece_127
        replace hf := ifn hf h3_
        refine lv_tableOut (tgt := 128) C.1 C.2.1 dX8_piece_41 (sw_out4 h0_ h1_ h2_ h3_) (by decide) ?_
        refine r_aload0 C hl 0 rfl dX8_piece_128 ?_
        refine lv_iconst (v := 1) C.1 C.2.1 dX8_piece_129 (by decide) ?_
        obtain ⟨u4, e4, hf⟩ := bx hf
        refine r_callVi (ws' := (mO G am as_ ar ac an ath ah u4.2 ++ (sO G as_ s_as_ ++ (cO G ac u2 ++ (tO G an t_an ++ (eO G an e_an ++ [])))))) (As := [.int 1]) (rest := []) C hw hl.1 kX8_refuse ml_X8_63 (c_X8_refuse l G am as_ ar ac an ath ah _ m_am 1 u4 e4) (CutX.take mO_f CutX.none) _ (gx_h mO_o) rfl ⟨rfl, rfl⟩ ⟨Nat.le_of_ble_eq_true rfl, Nat.le_of_ble_eq_true rfl⟩ rfl ⟨Nat.zero_le _, Nat.zero_le _⟩ rfl (Nat.le_of_ble_eq_true rfl) dX8_piece_130 (fun H locs hw => ?_)
        exact fin_i C hw (Option.some.inj hf) (fun o => o.1) (fun o => (mO G am as_ ar ac an ath ah o.2.1 ++ (sO G as_ s_as_ ++ (cO G ac o.2.2 ++ (tO G an t_an ++ (eO G an e_an ++ [])))))) rfl rfl dX8_piece_133
      · replace hf := ifn hf hc
        exact hB_34  m_am u2 hf _ _ hw _ (lv_sub hl [0] rfl)
  · replace hf := ifn hf hc
    refine r_aload0 C hl 0 rfl dX8_piece_8 ?_
    refine lv_iconst (v := 1) C.1 C.2.1 dX8_piece_9 (by decide) ?_
    obtain ⟨u13, e13, hf⟩ := bx hf
    refine r_callVi (ws' := (mO G am as_ ar ac an ath ah u13.2 ++ (sO G as_ s_as_ ++ (cO G ac c_ac ++ (tO G an t_an ++ (eO G an e_an ++ [])))))) (As := [.int 1]) (rest := []) C hw hl.1 kX8_refuse ml_X8_63 (c_X8_refuse l G am as_ ar ac an ath ah _ m_am 1 u13 e13) (CutX.take mO_f CutX.none) _ (gx_h mO_o) rfl ⟨rfl, rfl⟩ ⟨Nat.le_of_ble_eq_true rfl, Nat.le_of_ble_eq_true rfl⟩ rfl ⟨Nat.zero_le _, Nat.zero_le _⟩ rfl (Nat.le_of_ble_eq_true rfl) dX8_piece_10 (fun H locs hw => ?_)
    exact fin_i C hw (Option.some.inj hf) (fun o => o.1) (fun o => (mO G am as_ ar ac an ath ah o.2.1 ++ (sO G as_ s_as_ ++ (cO G ac o.2.2 ++ (tO G an t_an ++ (eO G an e_an ++ [])))))) rfl rfl dX8_piece_13
set_option maxHeartbeats 4000000 in
set_option maxRecDepth 100000 in
theorem c_X8_fewest (l : Launch) (G : GG) (am : Nat → Nat) (as_ : Nat → Nat) (ar : Nat → Nat) (ac : Nat → Nat) (an : Nat → Nat) (ath : Nat → Nat) (ah : Nat → Nat) (sz : Nat) (m_am : Pic) (s_as_ : Pic) (c_ac : Pic) (t_an : Pic) (e_an : Pic) (x1 : Int32) (out : Int32 × Pic × Pic) (hf : f_X8_fewest m_am s_as_ c_ac t_an e_an x1 = some out) : Met l yX8_fewest (.code yX8_fewest cX8_fewest 2 (some .int) :: BT) ({ frames := 4, cells := 0, slots := 0, locals := 95 }) (va_Pc [.ref (am 99), .int x1] (PreW G sz (mO G am as_ ar ac an ath ah m_am ++ (sO G as_ s_as_ ++ (cO G ac c_ac ++ (tO G an t_an ++ (eO G an e_an ++ []))))))) (Ans G out.1 (va_A (mO G am as_ ar ac an ath ah m_am ++ (sO G as_ s_as_ ++ (cO G ac c_ac ++ (tO G an t_an ++ (eO G an e_an ++ []))))) sz) (mO G am as_ ar ac an ath ah out.2.1 ++ (sO G as_ s_as_ ++ (cO G ac out.2.2 ++ (tO G an t_an ++ (eO G an e_an ++ [])))))) 0 0 (va_A (mO G am as_ ar ac an ath ah m_am ++ (sO G as_ s_as_ ++ (cO G ac c_ac ++ (tO G an t_an ++ (eO G an e_an ++ []))))) sz) := by
  refine Met.into (by decide) (Nat.le_of_ble_eq_true rfl) ?_
  intro p e s m below meth c C hsz ls hl hw
  have hl : lv_has ls 2 [(0, .ref (am 99)), (1, .int x1)] := hl
  clear hsz
  generalize va_A (mO G am as_ ar ac an ath ah m_am ++ (sO G as_ s_as_ ++ (cO G ac c_ac ++ (tO G an t_an ++ (eO G an e_an ++ []))))) sz = A at hw ⊢
  unfold f_X8_fewest at hf
  refine r_aload0 C hl 0 rfl dX8_fewest_0 ?_
  refine r_iload0 C hl 1 rfl dX8_fewest_1 ?_
  obtain ⟨u1, e1, hf⟩ := bx hf
  refine r_callVi (ws' := (mO G am as_ ar ac an ath ah m_am ++ (sO G as_ s_as_ ++ (cO G ac c_ac ++ (tO G an t_an ++ (eO G an e_an ++ [])))))) (As := [.int x1]) (rest := []) C hw hl.1 kX8_noData ml_X8_141 (c_X8_noData l G am as_ ar ac an ath ah _ m_am s_as_ x1 u1 e1) (CutX.take mO_f (CutX.take sO_f CutX.none)) _ (gx_h mO_o) rfl ⟨rfl, rfl⟩ ⟨Nat.le_of_ble_eq_true rfl, Nat.le_of_ble_eq_true rfl⟩ rfl ⟨Nat.zero_le _, Nat.zero_le _⟩ rfl (Nat.le_of_ble_eq_true rfl) dX8_fewest_2 (fun H locs hw => ?_)
  refine lv_if_eq (tgt := 14) C.1 C.2.1 dX8_fewest_5 (by decide) (fun hc => ?_) (fun hc => ?_)
  · replace hf := ifp hf hc
    refine r_aload0 C hl 0 rfl dX8_fewest_14 ?_
    refine r_get C hw _ (gx_h mO_o) 8 fl_X8_30 rfl dX8_fewest_15 ?_
    refine r_aload0 C hl 0 rfl dX8_fewest_18 ?_
    refine r_get C hw _ (gx_h mO_o) 9 fl_X8_37 rfl dX8_fewest_19 ?_
    refine r_get C hw _ (gx_t (gx_t (gx_t (gx_h tO_o)))) 0 fl_X8_148 rfl dX8_fewest_22 ?_
    refine r_iload0 C hl 1 rfl dX8_fewest_25 ?_
    refine lv_bipush (v := 16) C.1 C.2.1 dX8_fewest_26 (by decide) ?_
    refine lv_imul C.1 C.2.1 dX8_fewest_28 ?_
    obtain ⟨u2, e2, hf⟩ := bx hf
    refine r_callVv (ws' := (mO G am as_ ar ac an ath ah m_am ++ (sO G as_ s_as_ ++ (cO G ac u2 ++ (tO G an t_an ++ (eO G an e_an ++ [])))))) (As := [.ref (an 200), .int (x1 * 16)]) (rest := []) C hw hl.1 kX1_measure ml_X8_172 (c_X1_measure l G ac an _ c_ac e_an (x1 * 16) u2 e2) (CutX.skip (CutX.skip (CutX.take cO_f (CutX.skip (CutX.take eO_f CutX.none))))) _ (gx_t (gx_t (gx_h cO_o))) rfl ⟨rfl, rfl⟩ ⟨Nat.le_of_ble_eq_true rfl, Nat.le_of_ble_eq_true rfl⟩ rfl ⟨Nat.zero_le _, Nat.zero_le _⟩ rfl (Nat.le_of_ble_eq_true rfl) dX8_fewest_29 (fun H locs hw => ?_)
    refine r_aload0 C hl 0 rfl dX8_fewest_32 ?_
    refine r_aload0 C hl 0 rfl dX8_fewest_33 ?_
    refine r_get C hw _ (gx_h mO_o) 8 fl_X8_30 rfl dX8_fewest_34 ?_
    refine r_get C hw _ (gx_t (gx_t (gx_h cO_o))) 2 fl_X8_176 rfl dX8_fewest_37 ?_
    refine lv_iconst (v := 0) C.1 C.2.1 dX8_fewest_40 (by decide) ?_
    obtain ⟨v3_, e3, hf⟩ := bx hf
    refine r_iald C hw _ (gx_t (gx_t (gx_h cO_g2))) e3 dX8_fewest_41 ?_
    obtain ⟨u4, e4, hf⟩ := bx hf
    refine r_callVi (ws' := (mO G am as_ ar ac an ath ah u4.2 ++ (sO G as_ s_as_ ++ (cO G ac u2 ++ (tO G an t_an ++ (eO G an e_an ++ [])))))) (As := [.int v3_]) (rest := []) C hw hl.1 kX8_answer ml_X8_99 (c_X8_answer l G am as_ ar ac an ath ah _ m_am v3_ u4 e4) (CutX.take mO_f CutX.none) _ (gx_h mO_o) rfl ⟨rfl, rfl⟩ ⟨Nat.le_of_ble_eq_true rfl, Nat.le_of_ble_eq_true rfl⟩ rfl ⟨Nat.zero_le _, Nat.zero_le _⟩ rfl (Nat.le_of_ble_eq_true rfl) dX8_fewest_42 (fun H locs hw => ?_)
    exact fin_i C hw (Option.some.inj hf) (fun o => o.1) (fun o => (mO G am as_ ar ac an ath ah o.2.1 ++ (sO G as_ s_as_ ++ (cO G ac o.2.2 ++ (tO G an t_an ++ (eO G an e_an ++ [])))))) rfl rfl dX8_fewest_45
  · replace hf := ifn hf hc
    refine r_aload0 C hl 0 rfl dX8_fewest_8 ?_
    refine lv_iconst (v := 1) C.1 C.2.1 dX8_fewest_9 (by decide) ?_
    obtain ⟨u5, e5, hf⟩ := bx hf
    refine r_callVi (ws' := (mO G am as_ ar ac an ath ah u5.2 ++ (sO G as_ s_as_ ++ (cO G ac c_ac ++ (tO G an t_an ++ (eO G an e_an ++ [])))))) (As := [.int 1]) (rest := []) C hw hl.1 kX8_refuse ml_X8_63 (c_X8_refuse l G am as_ ar ac an ath ah _ m_am 1 u5 e5) (CutX.take mO_f CutX.none) _ (gx_h mO_o) rfl ⟨rfl, rfl⟩ ⟨Nat.le_of_ble_eq_true rfl, Nat.le_of_ble_eq_true rfl⟩ rfl ⟨Nat.zero_le _, Nat.zero_le _⟩ rfl (Nat.le_of_ble_eq_true rfl) dX8_fewest_10 (fun H locs hw => ?_)
    exact fin_i C hw (Option.some.inj hf) (fun o => o.1) (fun o => (mO G am as_ ar ac an ath ah o.2.1 ++ (sO G as_ s_as_ ++ (cO G ac o.2.2 ++ (tO G an t_an ++ (eO G an e_an ++ [])))))) rfl rfl dX8_fewest_13
set_option maxHeartbeats 4000000 in
set_option maxRecDepth 100000 in
theorem c_X8_rest (l : Launch) (G : GG) (am : Nat → Nat) (as_ : Nat → Nat) (ar : Nat → Nat) (ac : Nat → Nat) (an : Nat → Nat) (ath : Nat → Nat) (ah : Nat → Nat) (sz : Nat) (m_am : Pic) (s_as_ : Pic) (c_ac : Pic) (t_an : Pic) (e_an : Pic) (x1 : Int32) (x2 : Int32) (out : Int32 × Pic × Pic) (hf : f_X8_rest m_am s_as_ c_ac t_an e_an x1 x2 = some out) : Met l yX8_rest (.code yX8_rest cX8_rest 3 (some .int) :: BT) ({ frames := 4, cells := 0, slots := 0, locals := 95 }) (va_Pc [.ref (am 99), .int x1, .int x2] (PreW G sz (mO G am as_ ar ac an ath ah m_am ++ (sO G as_ s_as_ ++ (cO G ac c_ac ++ (tO G an t_an ++ (eO G an e_an ++ []))))))) (Ans G out.1 (va_A (mO G am as_ ar ac an ath ah m_am ++ (sO G as_ s_as_ ++ (cO G ac c_ac ++ (tO G an t_an ++ (eO G an e_an ++ []))))) sz) (mO G am as_ ar ac an ath ah out.2.1 ++ (sO G as_ s_as_ ++ (cO G ac out.2.2 ++ (tO G an t_an ++ (eO G an e_an ++ [])))))) 0 0 (va_A (mO G am as_ ar ac an ath ah m_am ++ (sO G as_ s_as_ ++ (cO G ac c_ac ++ (tO G an t_an ++ (eO G an e_an ++ []))))) sz) := by
  refine Met.into (by decide) (Nat.le_of_ble_eq_true rfl) ?_
  intro p e s m below meth c C hsz ls hl hw
  have hl : lv_has ls 3 [(0, .ref (am 99)), (1, .int x1), (2, .int x2)] := hl
  clear hsz
  generalize va_A (mO G am as_ ar ac an ath ah m_am ++ (sO G as_ s_as_ ++ (cO G ac c_ac ++ (tO G an t_an ++ (eO G an e_an ++ []))))) sz = A at hw ⊢
  have hB_15 : ∀ (m_am : Pic) (c_ac : Pic), b_X8_rest_15 s_as_ t_an e_an x1 x2  m_am c_ac = some out → ∀ (H : Heap) (locs : List Loc), Wd G A s H locs (mO G am as_ ar ac an ath ah m_am ++ (sO G as_ s_as_ ++ (cO G ac c_ac ++ (tO G an t_an ++ (eO G an e_an ++ []))))) → ∀ ls : Array Slot, lv_has ls 3 [(0, .ref (am 99))] → W p l e ({ frames := 4, cells := 0, slots := 0, locals := 95 }) s m [.ref (am 99), .int x1, .int x2].toArray below meth c H locs 0 0 (MQ below (Ans G out.1 A (mO G am as_ ar ac an ath ah out.2.1 ++ (sO G as_ s_as_ ++ (cO G ac out.2.2 ++ (tO G an t_an ++ (eO G an e_an ++ [])))))) [.ref (am 99), .int x1, .int x2].toArray s 0 0 A) (F0 m 15 ls []) := by
    intro m_am c_ac hf H locs hw ls hl
    unfold b_X8_rest_15 at hf
    refine r_aload0 C hl 0 rfl dX8_rest_15 ?_
    refine lv_iconst (v := 1) C.1 C.2.1 dX8_rest_16 (by decide) ?_
    obtain ⟨u2, e2, hf⟩ := bx hf
    refine r_callVi (ws' := (mO G am as_ ar ac an ath ah u2.2 ++ (sO G as_ s_as_ ++ (cO G ac c_ac ++ (tO G an t_an ++ (eO G an e_an ++ [])))))) (As := [.int 1]) (rest := []) C hw hl.1 kX8_refuse ml_X8_63 (c_X8_refuse l G am as_ ar ac an ath ah _ m_am 1 u2 e2) (CutX.take mO_f CutX.none) _ (gx_h mO_o) rfl ⟨rfl, rfl⟩ ⟨Nat.le_of_ble_eq_true rfl, Nat.le_of_ble_eq_true rfl⟩ rfl ⟨Nat.zero_le _, Nat.zero_le _⟩ rfl (Nat.le_of_ble_eq_true rfl) dX8_rest_17 (fun H locs hw => ?_)
    exact fin_i C hw (Option.some.inj hf) (fun o => o.1) (fun o => (mO G am as_ ar ac an ath ah o.2.1 ++ (sO G as_ s_as_ ++ (cO G ac o.2.2 ++ (tO G an t_an ++ (eO G an e_an ++ [])))))) rfl rfl dX8_rest_20
  unfold f_X8_rest at hf
  refine r_aload0 C hl 0 rfl dX8_rest_0 ?_
  refine r_iload0 C hl 1 rfl dX8_rest_1 ?_
  obtain ⟨u1, e1, hf⟩ := bx hf
  refine r_callVi (ws' := (mO G am as_ ar ac an ath ah m_am ++ (sO G as_ s_as_ ++ (cO G ac c_ac ++ (tO G an t_an ++ (eO G an e_an ++ [])))))) (As := [.int x1]) (rest := []) C hw hl.1 kX8_noData ml_X8_141 (c_X8_noData l G am as_ ar ac an ath ah _ m_am s_as_ x1 u1 e1) (CutX.take mO_f (CutX.take sO_f CutX.none)) _ (gx_h mO_o) rfl ⟨rfl, rfl⟩ ⟨Nat.le_of_ble_eq_true rfl, Nat.le_of_ble_eq_true rfl⟩ rfl ⟨Nat.zero_le _, Nat.zero_le _⟩ rfl (Nat.le_of_ble_eq_true rfl) dX8_rest_2 (fun H locs hw => ?_)
  refine lv_if_ne (tgt := 15) C.1 C.2.1 dX8_rest_5 (by decide) (fun hc => ?_) (fun hc => ?_)
  · replace hf := ifn hf hc
    exact hB_15  m_am c_ac hf _ _ hw _ (lv_sub hl [0] rfl)
  · replace hf := ifp hf hc
    refine r_iload0 C hl 2 rfl dX8_rest_8 ?_
    obtain ⟨u3, e3, hf⟩ := bx hf
    refine r_callSi (ws' := (mO G am as_ ar ac an ath ah m_am ++ (sO G as_ s_as_ ++ (cO G ac c_ac ++ (tO G an t_an ++ (eO G an e_an ++ [])))))) (As := [.int x2]) (rest := []) C hw hl.1 kX8_noCell ml_X8_145 (c_X8_noCell l G _ x2 u3 e3) CutX.none ⟨rfl, rfl⟩ ⟨Nat.le_of_ble_eq_true rfl, Nat.le_of_ble_eq_true rfl⟩ rfl ⟨Nat.zero_le _, Nat.zero_le _⟩ rfl (Nat.le_of_ble_eq_true rfl) dX8_rest_9 (fun H locs hw => ?_)
    refine lv_if_eq (tgt := 21) C.1 C.2.1 dX8_rest_12 (by decide) (fun hc => ?_) (fun hc => ?_)
    · replace hf := ifp hf hc
      refine r_aload0 C hl 0 rfl dX8_rest_21 ?_
      refine r_get C hw _ (gx_h mO_o) 8 fl_X8_30 rfl dX8_rest_22 ?_
      refine r_aload0 C hl 0 rfl dX8_rest_25 ?_
      refine r_get C hw _ (gx_h mO_o) 9 fl_X8_37 rfl dX8_rest_26 ?_
      refine r_get C hw _ (gx_t (gx_t (gx_t (gx_h tO_o)))) 0 fl_X8_148 rfl dX8_rest_29 ?_
      refine r_iload0 C hl 1 rfl dX8_rest_32 ?_
      refine lv_bipush (v := 16) C.1 C.2.1 dX8_rest_33 (by decide) ?_
      refine lv_imul C.1 C.2.1 dX8_rest_35 ?_
      obtain ⟨u4, e4, hf⟩ := bx hf
      refine r_callVv (ws' := (mO G am as_ ar ac an ath ah m_am ++ (sO G as_ s_as_ ++ (cO G ac u4 ++ (tO G an t_an ++ (eO G an e_an ++ [])))))) (As := [.ref (an 200), .int (x1 * 16)]) (rest := []) C hw hl.1 kX1_measure ml_X8_172 (c_X1_measure l G ac an _ c_ac e_an (x1 * 16) u4 e4) (CutX.skip (CutX.skip (CutX.take cO_f (CutX.skip (CutX.take eO_f CutX.none))))) _ (gx_t (gx_t (gx_h cO_o))) rfl ⟨rfl, rfl⟩ ⟨Nat.le_of_ble_eq_true rfl, Nat.le_of_ble_eq_true rfl⟩ rfl ⟨Nat.zero_le _, Nat.zero_le _⟩ rfl (Nat.le_of_ble_eq_true rfl) dX8_rest_36 (fun H locs hw => ?_)
      refine r_aload0 C hl 0 rfl dX8_rest_39 ?_
      refine r_aload0 C hl 0 rfl dX8_rest_40 ?_
      refine r_get C hw _ (gx_h mO_o) 8 fl_X8_30 rfl dX8_rest_41 ?_
      refine r_get C hw _ (gx_t (gx_t (gx_h cO_o))) 1 fl_X8_179 rfl dX8_rest_44 ?_
      refine r_iload0 C hl 2 rfl dX8_rest_47 ?_
      obtain ⟨v5_, e5, hf⟩ := bx hf
      refine r_iald C hw _ (gx_t (gx_t (gx_h cO_g1))) e5 dX8_rest_48 ?_
      obtain ⟨u6, e6, hf⟩ := bx hf
      refine r_callVi (ws' := (mO G am as_ ar ac an ath ah u6.2 ++ (sO G as_ s_as_ ++ (cO G ac u4 ++ (tO G an t_an ++ (eO G an e_an ++ [])))))) (As := [.int v5_]) (rest := []) C hw hl.1 kX8_answer ml_X8_99 (c_X8_answer l G am as_ ar ac an ath ah _ m_am v5_ u6 e6) (CutX.take mO_f CutX.none) _ (gx_h mO_o) rfl ⟨rfl, rfl⟩ ⟨Nat.le_of_ble_eq_true rfl, Nat.le_of_ble_eq_true rfl⟩ rfl ⟨Nat.zero_le _, Nat.zero_le _⟩ rfl (Nat.le_of_ble_eq_true rfl) dX8_rest_49 (fun H locs hw => ?_)
      exact fin_i C hw (Option.some.inj hf) (fun o => o.1) (fun o => (mO G am as_ ar ac an ath ah o.2.1 ++ (sO G as_ s_as_ ++ (cO G ac o.2.2 ++ (tO G an t_an ++ (eO G an e_an ++ [])))))) rfl rfl dX8_rest_52
    · replace hf := ifn hf hc
      exact hB_15  m_am c_ac hf _ _ hw _ (lv_sub hl [0] rfl)
set_option maxHeartbeats 4000000 in
set_option maxRecDepth 100000 in
theorem c_X8_ranked (l : Launch) (G : GG) (am : Nat → Nat) (as_ : Nat → Nat) (ar : Nat → Nat) (ac : Nat → Nat) (an : Nat → Nat) (ath : Nat → Nat) (ah : Nat → Nat) (sz : Nat) (m_am : Pic) (s_as_ : Pic) (t_an : Pic) (x1 : Int32) (out : Int32 × Pic) (hf : f_X8_ranked m_am s_as_ t_an x1 = some out) : Met l yX8_ranked (.code yX8_ranked cX8_ranked 3 (some .int) :: BT) ({ frames := 1, cells := 0, slots := 0, locals := 24 }) (va_Pc [.ref (am 99), .int x1] (PreW G sz (mO G am as_ ar ac an ath ah m_am ++ (sO G as_ s_as_ ++ (tO G an t_an ++ []))))) (Ans G out.1 (va_A (mO G am as_ ar ac an ath ah m_am ++ (sO G as_ s_as_ ++ (tO G an t_an ++ []))) sz) (mO G am as_ ar ac an ath ah out.2 ++ (sO G as_ s_as_ ++ (tO G an t_an ++ [])))) 0 0 (va_A (mO G am as_ ar ac an ath ah m_am ++ (sO G as_ s_as_ ++ (tO G an t_an ++ []))) sz) := by
  refine Met.into (by decide) (Nat.le_of_ble_eq_true rfl) ?_
  intro p e s m below meth c C hsz ls hl hw
  have hl : lv_has ls 3 [(0, .ref (am 99)), (1, .int x1)] := hl
  clear hsz
  generalize va_A (mO G am as_ ar ac an ath ah m_am ++ (sO G as_ s_as_ ++ (tO G an t_an ++ []))) sz = A at hw ⊢
  have hB_15 : ∀ (k15 : Pic → Int32 → Option (Int32 × Pic)) (hk15 : ∀ (m_am : Pic) (v2 : Int32), k15 m_am v2 = some out → ∀ (H : Heap) (locs : List Loc), Wd G A s H locs (mO G am as_ ar ac an ath ah m_am ++ (sO G as_ s_as_ ++ (tO G an t_an ++ []))) → ∀ ls : Array Slot, lv_has ls 3 [(0, .ref (am 99)), (1, .int x1), (2, .int v2)] → W p l e ({ frames := 1, cells := 0, slots := 0, locals := 24 }) s m [.ref (am 99), .int x1].toArray below meth c H locs 0 0 (MQ below (Ans G out.1 A (mO G am as_ ar ac an ath ah out.2 ++ (sO G as_ s_as_ ++ (tO G an t_an ++ [])))) [.ref (am 99), .int x1].toArray s 0 0 A) (F0 m 15 ls [])), ∀ (m_am : Pic) (v2 : Int32), b_X8_ranked_15 s_as_ t_an x1 k15 m_am v2 = some out → ∀ (H : Heap) (locs : List Loc), Wd G A s H locs (mO G am as_ ar ac an ath ah m_am ++ (sO G as_ s_as_ ++ (tO G an t_an ++ []))) → ∀ ls : Array Slot, lv_has ls 3 [(0, .ref (am 99)), (1, .int x1), (2, .int v2)] → W p l e ({ frames := 1, cells := 0, slots := 0, locals := 24 }) s m [.ref (am 99), .int x1].toArray below meth c H locs 0 0 (MQ below (Ans G out.1 A (mO G am as_ ar ac an ath ah out.2 ++ (sO G as_ s_as_ ++ (tO G an t_an ++ [])))) [.ref (am 99), .int x1].toArray s 0 0 A) (F0 m 15 ls []) := by
    intro k15 hk15 m_am v2 hf H locs hw ls hl
    unfold b_X8_ranked_15 at hf
    refine r_iload0 C hl 2 rfl dX8_ranked_15 ?_
    refine r_aload0 C hl 0 rfl dX8_ranked_16 ?_
    refine r_get C hw _ (gx_h mO_o) 6 fl_X8_16 rfl dX8_ranked_17 ?_
    refine r_get C hw _ (gx_t (gx_h sO_o)) 3 fl_X8_96 rfl dX8_ranked_20 ?_
    refine lv_icmp_ge (tgt := 47) C.1 C.2.1 dX8_ranked_23 (by decide) (fun hc => ?_) (fun hc => ?_)
    · replace hf := ifp hf hc
      refine r_aload0 C hl 0 rfl dX8_ranked_47 ?_
      refine lv_iconst (v := 1) C.1 C.2.1 dX8_ranked_48 (by decide) ?_
      obtain ⟨u1, e1, hf⟩ := bx hf
      refine r_callVi (ws' := (mO G am as_ ar ac an ath ah u1.2 ++ (sO G as_ s_as_ ++ (tO G an t_an ++ [])))) (As := [.int 1]) (rest := []) C hw hl.1 kX8_refuse ml_X8_63 (c_X8_refuse l G am as_ ar ac an ath ah _ m_am 1 u1 e1) (CutX.take mO_f CutX.none) _ (gx_h mO_o) rfl ⟨rfl, rfl⟩ ⟨Nat.le_of_ble_eq_true rfl, Nat.le_of_ble_eq_true rfl⟩ rfl ⟨Nat.zero_le _, Nat.zero_le _⟩ rfl (Nat.le_of_ble_eq_true rfl) dX8_ranked_49 (fun H locs hw => ?_)
      exact fin_i C hw (Option.some.inj hf) (fun o => o.1) (fun o => (mO G am as_ ar ac an ath ah o.2 ++ (sO G as_ s_as_ ++ (tO G an t_an ++ [])))) rfl rfl dX8_ranked_52
    · replace hf := ifn hf hc
      refine r_aload0 C hl 0 rfl dX8_ranked_26 ?_
      refine r_iload0 C hl 2 rfl dX8_ranked_27 ?_
      obtain ⟨u2, e2, hf⟩ := bx hf
      refine r_callVi (ws' := (mO G am as_ ar ac an ath ah m_am ++ (sO G as_ s_as_ ++ (tO G an t_an ++ [])))) (As := [.int v2]) (rest := []) C hw hl.1 kX8_rankOf ml_X8_182 (c_X8_rankOf l G am as_ ar ac an ath ah _ m_am s_as_ t_an v2 u2 e2) (CutX.take mO_f (CutX.take sO_f (CutX.take tO_f CutX.none))) _ (gx_h mO_o) rfl ⟨rfl, rfl⟩ ⟨Nat.le_of_ble_eq_true rfl, Nat.le_of_ble_eq_true rfl⟩ rfl ⟨Nat.zero_le _, Nat.zero_le _⟩ rfl (Nat.le_of_ble_eq_true rfl) dX8_ranked_28 (fun H locs hw => ?_)
      refine r_iload0 C hl 1 rfl dX8_ranked_31 ?_
      refine lv_icmp_ne (tgt := 41) C.1 C.2.1 dX8_ranked_32 (by decide) (fun hc => ?_) (fun hc => ?_)
      · replace hf := ifn hf hc
        refine r_iinc C hl 2 (v2 + 1) [(2, .int (v2 + 1)), (0, .ref (am 99)), (1, .int x1)] rfl (iinc_e (by decide)) (by decide) rfl dX8_ranked_41 (fun ls hl => ?_)
        refine lv_goto (tgt := 15) C.1 C.2.1 dX8_ranked_44 (by decide) ?_
        exact hk15 m_am (v2 + 1) hf _ _ hw _ (lv_sub hl [1, 2, 0] rfl)
      · replace hf := ifp hf hc
        refine r_aload0 C hl 0 rfl dX8_ranked_35 ?_
        refine r_iload0 C hl 2 rfl dX8_ranked_36 ?_
        obtain ⟨u3, e3, hf⟩ := bx hf
        refine r_callVi (ws' := (mO G am as_ ar ac an ath ah u3.2 ++ (sO G as_ s_as_ ++ (tO G an t_an ++ [])))) (As := [.int v2]) (rest := []) C hw hl.1 kX8_answer ml_X8_99 (c_X8_answer l G am as_ ar ac an ath ah _ m_am v2 u3 e3) (CutX.take mO_f CutX.none) _ (gx_h mO_o) rfl ⟨rfl, rfl⟩ ⟨Nat.le_of_ble_eq_true rfl, Nat.le_of_ble_eq_true rfl⟩ rfl ⟨Nat.zero_le _, Nat.zero_le _⟩ rfl (Nat.le_of_ble_eq_true rfl) dX8_ranked_37 (fun H locs hw => ?_)
        exact fin_i C hw (Option.some.inj hf) (fun o => o.1) (fun o => (mO G am as_ ar ac an ath ah o.2 ++ (sO G as_ s_as_ ++ (tO G an t_an ++ [])))) rfl rfl dX8_ranked_40
  have hL_15 : ∀ n : Nat, ∀ (m_am : Pic) (v2 : Int32), L_X8_ranked_15 s_as_ t_an x1  n m_am v2 = some out → ∀ (H : Heap) (locs : List Loc), Wd G A s H locs (mO G am as_ ar ac an ath ah m_am ++ (sO G as_ s_as_ ++ (tO G an t_an ++ []))) → ∀ ls : Array Slot, lv_has ls 3 [(0, .ref (am 99)), (1, .int x1), (2, .int v2)] → W p l e ({ frames := 1, cells := 0, slots := 0, locals := 24 }) s m [.ref (am 99), .int x1].toArray below meth c H locs 0 0 (MQ below (Ans G out.1 A (mO G am as_ ar ac an ath ah out.2 ++ (sO G as_ s_as_ ++ (tO G an t_an ++ [])))) [.ref (am 99), .int x1].toArray s 0 0 A) (F0 m 15 ls []) := by
    intro  n
    induction n with
    | zero => intro m_am v2 hf; cases hf
    | succ n ih => exact hB_15 _ ih
  unfold f_X8_ranked at hf
  refine r_aload0 C hl 0 rfl dX8_ranked_0 ?_
  refine r_get C hw _ (gx_h mO_o) 2 fl_X8_85 rfl dX8_ranked_1 ?_
  refine lv_if_ne (tgt := 13) C.1 C.2.1 dX8_ranked_4 (by decide) (fun hc => ?_) (fun hc => ?_)
  · replace hf := ifn hf hc
    refine lv_iconst (v := 0) C.1 C.2.1 dX8_ranked_13 (by decide) ?_
    refine r_istore0 C hl [(2, .int 0), (0, .ref (am 99)), (1, .int x1)] (by decide) rfl dX8_ranked_14 (fun ls hl => ?_)
    exact hL_15  FU m_am 0 hf _ _ hw _ (lv_sub hl [1, 2, 0] rfl)
  · replace hf := ifp hf hc
    refine r_aload0 C hl 0 rfl dX8_ranked_7 ?_
    refine lv_iconst (v := 1) C.1 C.2.1 dX8_ranked_8 (by decide) ?_
    obtain ⟨u4, e4, hf⟩ := bx hf
    refine r_callVi (ws' := (mO G am as_ ar ac an ath ah u4.2 ++ (sO G as_ s_as_ ++ (tO G an t_an ++ [])))) (As := [.int 1]) (rest := []) C hw hl.1 kX8_refuse ml_X8_63 (c_X8_refuse l G am as_ ar ac an ath ah _ m_am 1 u4 e4) (CutX.take mO_f CutX.none) _ (gx_h mO_o) rfl ⟨rfl, rfl⟩ ⟨Nat.le_of_ble_eq_true rfl, Nat.le_of_ble_eq_true rfl⟩ rfl ⟨Nat.zero_le _, Nat.zero_le _⟩ rfl (Nat.le_of_ble_eq_true rfl) dX8_ranked_9 (fun H locs hw => ?_)
    exact fin_i C hw (Option.some.inj hf) (fun o => o.1) (fun o => (mO G am as_ ar ac an ath ah o.2 ++ (sO G as_ s_as_ ++ (tO G an t_an ++ [])))) rfl rfl dX8_ranked_12
set_option maxHeartbeats 4000000 in
set_option maxRecDepth 100000 in
theorem c_X8_sort (l : Launch) (G : GG) (am : Nat → Nat) (as_ : Nat → Nat) (ar : Nat → Nat) (ac : Nat → Nat) (an : Nat → Nat) (ath : Nat → Nat) (ah : Nat → Nat) (sz : Nat) (m_am : Pic) (s_as_ : Pic) (t_an : Pic) (p_an : Pic) (x1 : Int32) (out : Int32 × Pic) (hf : f_X8_sort m_am s_as_ t_an p_an x1 = some out) : Met l yX8_sort (.code yX8_sort cX8_sort 3 (some .int) :: BT) ({ frames := 1, cells := 0, slots := 0, locals := 21 }) (va_Pc [.ref (am 99), .int x1] (PreW G sz (mO G am as_ ar ac an ath ah m_am ++ (sO G as_ s_as_ ++ (tO G an t_an ++ (pO G an p_an ++ [])))))) (Ans G out.1 (va_A (mO G am as_ ar ac an ath ah m_am ++ (sO G as_ s_as_ ++ (tO G an t_an ++ (pO G an p_an ++ [])))) sz) (mO G am as_ ar ac an ath ah out.2 ++ (sO G as_ s_as_ ++ (tO G an t_an ++ (pO G an p_an ++ []))))) 0 0 (va_A (mO G am as_ ar ac an ath ah m_am ++ (sO G as_ s_as_ ++ (tO G an t_an ++ (pO G an p_an ++ [])))) sz) := by
  refine Met.into (by decide) (Nat.le_of_ble_eq_true rfl) ?_
  intro p e s m below meth c C hsz ls hl hw
  have hl : lv_has ls 3 [(0, .ref (am 99)), (1, .int x1)] := hl
  clear hsz
  generalize va_A (mO G am as_ ar ac an ath ah m_am ++ (sO G as_ s_as_ ++ (tO G an t_an ++ (pO G an p_an ++ [])))) sz = A at hw ⊢
  have hB_57 : ∀ (m_am : Pic) (t0 : Int32), b_X8_sort_57 s_as_ t_an p_an x1  m_am t0 = some out → ∀ (H : Heap) (locs : List Loc), Wd G A s H locs (mO G am as_ ar ac an ath ah m_am ++ (sO G as_ s_as_ ++ (tO G an t_an ++ (pO G an p_an ++ [])))) → ∀ ls : Array Slot, lv_has ls 3 [] → W p l e ({ frames := 1, cells := 0, slots := 0, locals := 21 }) s m [.ref (am 99), .int x1].toArray below meth c H locs 0 0 (MQ below (Ans G out.1 A (mO G am as_ ar ac an ath ah out.2 ++ (sO G as_ s_as_ ++ (tO G an t_an ++ (pO G an p_an ++ []))))) [.ref (am 99), .int x1].toArray s 0 0 A) (F0 m 57 ls [.int t0, .ref (am 99)]) := by
    intro m_am t0 hf H locs hw ls hl
    unfold b_X8_sort_57 at hf
    obtain ⟨u4, e4, hf⟩ := bx hf
    refine r_callVi (ws' := (mO G am as_ ar ac an ath ah u4.2 ++ (sO G as_ s_as_ ++ (tO G an t_an ++ (pO G an p_an ++ []))))) (As := [.int t0]) (rest := []) C hw hl.1 kX8_answer ml_X8_99 (c_X8_answer l G am as_ ar ac an ath ah _ m_am t0 u4 e4) (CutX.take mO_f CutX.none) _ (gx_h mO_o) rfl ⟨rfl, rfl⟩ ⟨Nat.le_of_ble_eq_true rfl, Nat.le_of_ble_eq_true rfl⟩ rfl ⟨Nat.zero_le _, Nat.zero_le _⟩ rfl (Nat.le_of_ble_eq_true rfl) dX8_sort_57 (fun H locs hw => ?_)
    exact fin_i C hw (Option.some.inj hf) (fun o => o.1) (fun o => (mO G am as_ ar ac an ath ah o.2 ++ (sO G as_ s_as_ ++ (tO G an t_an ++ (pO G an p_an ++ []))))) rfl rfl dX8_sort_60
  unfold f_X8_sort at hf
  refine r_aload0 C hl 0 rfl dX8_sort_0 ?_
  refine r_iload0 C hl 1 rfl dX8_sort_1 ?_
  obtain ⟨u1, e1, hf⟩ := bx hf
  refine r_callVi (ws' := (mO G am as_ ar ac an ath ah m_am ++ (sO G as_ s_as_ ++ (tO G an t_an ++ (pO G an p_an ++ []))))) (As := [.int x1]) (rest := []) C hw hl.1 kX8_noData ml_X8_141 (c_X8_noData l G am as_ ar ac an ath ah _ m_am s_as_ x1 u1 e1) (CutX.take mO_f (CutX.take sO_f CutX.none)) _ (gx_h mO_o) rfl ⟨rfl, rfl⟩ ⟨Nat.le_of_ble_eq_true rfl, Nat.le_of_ble_eq_true rfl⟩ rfl ⟨Nat.zero_le _, Nat.zero_le _⟩ rfl (Nat.le_of_ble_eq_true rfl) dX8_sort_2 (fun H locs hw => ?_)
  refine lv_if_eq (tgt := 14) C.1 C.2.1 dX8_sort_5 (by decide) (fun hc => ?_) (fun hc => ?_)
  · replace hf := ifp hf hc
    refine r_aload0 C hl 0 rfl dX8_sort_14 ?_
    refine r_get C hw _ (gx_h mO_o) 9 fl_X8_37 rfl dX8_sort_15 ?_
    refine r_get C hw _ (gx_t (gx_t (gx_h tO_o))) 1 fl_X8_151 rfl dX8_sort_18 ?_
    refine r_iload0 C hl 1 rfl dX8_sort_21 ?_
    obtain ⟨v2_, e2, hf⟩ := bx hf
    refine r_iald C hw _ (gx_t (gx_t (gx_h tO_g1))) e2 dX8_sort_22 ?_
    refine r_istore0 C hl [(2, .int v2_), (0, .ref (am 99)), (1, .int x1)] (by decide) rfl dX8_sort_23 (fun ls hl => ?_)
    refine r_iload0 C hl 0 rfl dX8_sort_24 ?_
    obtain ⟨u3, e3, hf⟩ := bx hf
    refine r_callSi (ws' := (mO G am as_ ar ac an ath ah m_am ++ (sO G as_ s_as_ ++ (tO G an t_an ++ (pO G an p_an ++ []))))) (As := [.int v2_]) (rest := []) C hw hl.1 kX1_isWordSize ml_X8_185 (c_X1_isWordSize l G _ v2_ u3 e3) CutX.none ⟨rfl, rfl⟩ ⟨Nat.le_of_ble_eq_true rfl, Nat.le_of_ble_eq_true rfl⟩ rfl ⟨Nat.zero_le _, Nat.zero_le _⟩ rfl (Nat.le_of_ble_eq_true rfl) dX8_sort_25 (fun H locs hw => ?_)
    refine lv_if_eq (tgt := 37) C.1 C.2.1 dX8_sort_28 (by decide) (fun hc => ?_) (fun hc => ?_)
    · replace hf := ifp hf hc
      refine r_aload0 C hl 1 rfl dX8_sort_37 ?_
      refine r_iload0 C hl 0 rfl dX8_sort_38 ?_
      refine r_aload0 C hl 1 rfl dX8_sort_39 ?_
      refine r_get C hw _ (gx_h mO_o) 9 fl_X8_37 rfl dX8_sort_40 ?_
      refine r_get C hw _ (gx_t (gx_t (gx_h tO_o))) 2 fl_X8_105 rfl dX8_sort_43 ?_
      refine r_get C hw _ (gx_t (gx_t (gx_t (gx_h pO_o)))) 2 fl_X8_114 rfl dX8_sort_46 ?_
      refine lv_icmp_le (tgt := 56) C.1 C.2.1 dX8_sort_49 (by decide) (fun hc => ?_) (fun hc => ?_)
      · replace hf := ifp hf hc
        refine lv_iconst (v := 0) C.1 C.2.1 dX8_sort_56 (by decide) ?_
        exact hB_57  m_am 0 hf _ _ hw _ (lv_sub hl [] rfl)
      · replace hf := ifn hf hc
        refine lv_iconst (v := 2) C.1 C.2.1 dX8_sort_52 (by decide) ?_
        refine lv_goto (tgt := 57) C.1 C.2.1 dX8_sort_53 (by decide) ?_
        exact hB_57  m_am 2 hf _ _ hw _ (lv_sub hl [] rfl)
    · replace hf := ifn hf hc
      refine r_aload0 C hl 1 rfl dX8_sort_31 ?_
      refine lv_iconst (v := 1) C.1 C.2.1 dX8_sort_32 (by decide) ?_
      obtain ⟨u5, e5, hf⟩ := bx hf
      refine r_callVi (ws' := (mO G am as_ ar ac an ath ah u5.2 ++ (sO G as_ s_as_ ++ (tO G an t_an ++ (pO G an p_an ++ []))))) (As := [.int 1]) (rest := []) C hw hl.1 kX8_answer ml_X8_99 (c_X8_answer l G am as_ ar ac an ath ah _ m_am 1 u5 e5) (CutX.take mO_f CutX.none) _ (gx_h mO_o) rfl ⟨rfl, rfl⟩ ⟨Nat.le_of_ble_eq_true rfl, Nat.le_of_ble_eq_true rfl⟩ rfl ⟨Nat.zero_le _, Nat.zero_le _⟩ rfl (Nat.le_of_ble_eq_true rfl) dX8_sort_33 (fun H locs hw => ?_)
      exact fin_i C hw (Option.some.inj hf) (fun o => o.1) (fun o => (mO G am as_ ar ac an ath ah o.2 ++ (sO G as_ s_as_ ++ (tO G an t_an ++ (pO G an p_an ++ []))))) rfl rfl dX8_sort_36
  · replace hf := ifn hf hc
    refine r_aload0 C hl 0 rfl dX8_sort_8 ?_
    refine lv_iconst (v := 1) C.1 C.2.1 dX8_sort_9 (by decide) ?_
    obtain ⟨u6, e6, hf⟩ := bx hf
    refine r_callVi (ws' := (mO G am as_ ar ac an ath ah u6.2 ++ (sO G as_ s_as_ ++ (tO G an t_an ++ (pO G an p_an ++ []))))) (As := [.int 1]) (rest := []) C hw hl.1 kX8_refuse ml_X8_63 (c_X8_refuse l G am as_ ar ac an ath ah _ m_am 1 u6 e6) (CutX.take mO_f CutX.none) _ (gx_h mO_o) rfl ⟨rfl, rfl⟩ ⟨Nat.le_of_ble_eq_true rfl, Nat.le_of_ble_eq_true rfl⟩ rfl ⟨Nat.zero_le _, Nat.zero_le _⟩ rfl (Nat.le_of_ble_eq_true rfl) dX8_sort_10 (fun H locs hw => ?_)
    exact fin_i C hw (Option.some.inj hf) (fun o => o.1) (fun o => (mO G am as_ ar ac an ath ah o.2 ++ (sO G as_ s_as_ ++ (tO G an t_an ++ (pO G an p_an ++ []))))) rfl rfl dX8_sort_13
set_option maxHeartbeats 4000000 in
set_option maxRecDepth 100000 in
theorem c_X8_home (l : Launch) (G : GG) (am : Nat → Nat) (as_ : Nat → Nat) (ar : Nat → Nat) (ac : Nat → Nat) (an : Nat → Nat) (ath : Nat → Nat) (ah : Nat → Nat) (sz : Nat) (m_am : Pic) (t_an : Pic) (p_an : Pic) (x1 : Int32) (out : Int32 × Pic) (hf : f_X8_home m_am t_an p_an x1 = some out) : Met l yX8_home (.code yX8_home cX8_home 2 (some .int) :: BT) ({ frames := 1, cells := 0, slots := 0, locals := 21 }) (va_Pc [.ref (am 99), .int x1] (PreW G sz (mO G am as_ ar ac an ath ah m_am ++ (tO G an t_an ++ (pO G an p_an ++ []))))) (Ans G out.1 (va_A (mO G am as_ ar ac an ath ah m_am ++ (tO G an t_an ++ (pO G an p_an ++ []))) sz) (mO G am as_ ar ac an ath ah out.2 ++ (tO G an t_an ++ (pO G an p_an ++ [])))) 0 0 (va_A (mO G am as_ ar ac an ath ah m_am ++ (tO G an t_an ++ (pO G an p_an ++ []))) sz) := by
  refine Met.into (by decide) (Nat.le_of_ble_eq_true rfl) ?_
  intro p e s m below meth c C hsz ls hl hw
  have hl : lv_has ls 2 [(0, .ref (am 99)), (1, .int x1)] := hl
  clear hsz
  generalize va_A (mO G am as_ ar ac an ath ah m_am ++ (tO G an t_an ++ (pO G an p_an ++ []))) sz = A at hw ⊢
  unfold f_X8_home at hf
  refine r_aload0 C hl 0 rfl dX8_home_0 ?_
  refine r_get C hw _ (gx_h mO_o) 2 fl_X8_85 rfl dX8_home_1 ?_
  refine lv_if_ne (tgt := 13) C.1 C.2.1 dX8_home_4 (by decide) (fun hc => ?_) (fun hc => ?_)
  · replace hf := ifn hf hc
    refine r_iload0 C hl 1 rfl dX8_home_13 ?_
    obtain ⟨u1, e1, hf⟩ := bx hf
    refine r_callSi (ws' := (mO G am as_ ar ac an ath ah m_am ++ (tO G an t_an ++ (pO G an p_an ++ [])))) (As := [.int x1]) (rest := []) C hw hl.1 kX8_noSize ml_X8_188 (c_X8_noSize l G _ x1 u1 e1) CutX.none ⟨rfl, rfl⟩ ⟨Nat.le_of_ble_eq_true rfl, Nat.le_of_ble_eq_true rfl⟩ rfl ⟨Nat.zero_le _, Nat.zero_le _⟩ rfl (Nat.le_of_ble_eq_true rfl) dX8_home_14 (fun H locs hw => ?_)
    refine lv_if_eq (tgt := 26) C.1 C.2.1 dX8_home_17 (by decide) (fun hc => ?_) (fun hc => ?_)
    · replace hf := ifp hf hc
      refine r_aload0 C hl 0 rfl dX8_home_26 ?_
      refine r_iload0 C hl 1 rfl dX8_home_27 ?_
      refine r_aload0 C hl 0 rfl dX8_home_28 ?_
      refine r_get C hw _ (gx_h mO_o) 9 fl_X8_37 rfl dX8_home_29 ?_
      refine r_get C hw _ (gx_t (gx_h tO_o)) 2 fl_X8_105 rfl dX8_home_32 ?_
      refine r_get C hw _ (gx_t (gx_t (gx_h pO_o))) 1 fl_X8_111 rfl dX8_home_35 ?_
      obtain ⟨u2, e2, hf⟩ := bx hf
      refine r_callSi (ws' := (mO G am as_ ar ac an ath ah m_am ++ (tO G an t_an ++ (pO G an p_an ++ [])))) (As := [.int x1, .int (gS p_an 1)]) (rest := [.ref (am 99)]) C hw hl.1 kX0_homeOf ml_X8_191 (c_X0_homeOf l G _ x1 (gS p_an 1) u2 e2) CutX.none ⟨rfl, rfl⟩ ⟨Nat.le_of_ble_eq_true rfl, Nat.le_of_ble_eq_true rfl⟩ rfl ⟨Nat.zero_le _, Nat.zero_le _⟩ rfl (Nat.le_of_ble_eq_true rfl) dX8_home_38 (fun H locs hw => ?_)
      obtain ⟨u3, e3, hf⟩ := bx hf
      refine r_callVi (ws' := (mO G am as_ ar ac an ath ah u3.2 ++ (tO G an t_an ++ (pO G an p_an ++ [])))) (As := [.int u2]) (rest := []) C hw hl.1 kX8_answer ml_X8_99 (c_X8_answer l G am as_ ar ac an ath ah _ m_am u2 u3 e3) (CutX.take mO_f CutX.none) _ (gx_h mO_o) rfl ⟨rfl, rfl⟩ ⟨Nat.le_of_ble_eq_true rfl, Nat.le_of_ble_eq_true rfl⟩ rfl ⟨Nat.zero_le _, Nat.zero_le _⟩ rfl (Nat.le_of_ble_eq_true rfl) dX8_home_41 (fun H locs hw => ?_)
      exact fin_i C hw (Option.some.inj hf) (fun o => o.1) (fun o => (mO G am as_ ar ac an ath ah o.2 ++ (tO G an t_an ++ (pO G an p_an ++ [])))) rfl rfl dX8_home_44
    · replace hf := ifn hf hc
      refine r_aload0 C hl 0 rfl dX8_home_20 ?_
      refine lv_iconst (v := 2) C.1 C.2.1 dX8_home_21 (by decide) ?_
      obtain ⟨u4, e4, hf⟩ := bx hf
      refine r_callVi (ws' := (mO G am as_ ar ac an ath ah u4.2 ++ (tO G an t_an ++ (pO G an p_an ++ [])))) (As := [.int 2]) (rest := []) C hw hl.1 kX8_refuse ml_X8_63 (c_X8_refuse l G am as_ ar ac an ath ah _ m_am 2 u4 e4) (CutX.take mO_f CutX.none) _ (gx_h mO_o) rfl ⟨rfl, rfl⟩ ⟨Nat.le_of_ble_eq_true rfl, Nat.le_of_ble_eq_true rfl⟩ rfl ⟨Nat.zero_le _, Nat.zero_le _⟩ rfl (Nat.le_of_ble_eq_true rfl) dX8_home_22 (fun H locs hw => ?_)
      exact fin_i C hw (Option.some.inj hf) (fun o => o.1) (fun o => (mO G am as_ ar ac an ath ah o.2 ++ (tO G an t_an ++ (pO G an p_an ++ [])))) rfl rfl dX8_home_25
  · replace hf := ifp hf hc
    refine r_aload0 C hl 0 rfl dX8_home_7 ?_
    refine lv_iconst (v := 1) C.1 C.2.1 dX8_home_8 (by decide) ?_
    obtain ⟨u5, e5, hf⟩ := bx hf
    refine r_callVi (ws' := (mO G am as_ ar ac an ath ah u5.2 ++ (tO G an t_an ++ (pO G an p_an ++ [])))) (As := [.int 1]) (rest := []) C hw hl.1 kX8_refuse ml_X8_63 (c_X8_refuse l G am as_ ar ac an ath ah _ m_am 1 u5 e5) (CutX.take mO_f CutX.none) _ (gx_h mO_o) rfl ⟨rfl, rfl⟩ ⟨Nat.le_of_ble_eq_true rfl, Nat.le_of_ble_eq_true rfl⟩ rfl ⟨Nat.zero_le _, Nat.zero_le _⟩ rfl (Nat.le_of_ble_eq_true rfl) dX8_home_9 (fun H locs hw => ?_)
    exact fin_i C hw (Option.some.inj hf) (fun o => o.1) (fun o => (mO G am as_ ar ac an ath ah o.2 ++ (tO G an t_an ++ (pO G an p_an ++ [])))) rfl rfl dX8_home_12
set_option maxHeartbeats 4000000 in
set_option maxRecDepth 100000 in
theorem c_X8_sizes (l : Launch) (G : GG) (am : Nat → Nat) (as_ : Nat → Nat) (ar : Nat → Nat) (ac : Nat → Nat) (an : Nat → Nat) (ath : Nat → Nat) (ah : Nat → Nat) (sz : Nat) (m_am : Pic) (t_an : Pic) (p_an : Pic) (z_an : Pic) (x1 : Int32) (x2 : Int32) (out : Int32 × Pic) (hf : f_X8_sizes m_am t_an p_an z_an x1 x2 = some out) : Met l yX8_sizes (.code yX8_sizes cX8_sizes 3 (some .int) :: BT) ({ frames := 2, cells := 0, slots := 0, locals := 42 }) (va_Pc [.ref (am 99), .int x1, .int x2] (PreW G sz (mO G am as_ ar ac an ath ah m_am ++ (tO G an t_an ++ (pO G an p_an ++ (zO G an z_an ++ [])))))) (Ans G out.1 (va_A (mO G am as_ ar ac an ath ah m_am ++ (tO G an t_an ++ (pO G an p_an ++ (zO G an z_an ++ [])))) sz) (mO G am as_ ar ac an ath ah out.2 ++ (tO G an t_an ++ (pO G an p_an ++ (zO G an z_an ++ []))))) 0 0 (va_A (mO G am as_ ar ac an ath ah m_am ++ (tO G an t_an ++ (pO G an p_an ++ (zO G an z_an ++ [])))) sz) := by
  refine Met.into (by decide) (Nat.le_of_ble_eq_true rfl) ?_
  intro p e s m below meth c C hsz ls hl hw
  have hl : lv_has ls 3 [(0, .ref (am 99)), (1, .int x1), (2, .int x2)] := hl
  clear hsz
  generalize va_A (mO G am as_ ar ac an ath ah m_am ++ (tO G an t_an ++ (pO G an p_an ++ (zO G an z_an ++ [])))) sz = A at hw ⊢
  unfold f_X8_sizes at hf
  refine r_aload0 C hl 0 rfl dX8_sizes_0 ?_
  refine r_iload0 C hl 1 rfl dX8_sizes_1 ?_
  obtain ⟨u1, e1, hf⟩ := bx hf
  refine r_callVi (ws' := (mO G am as_ ar ac an ath ah m_am ++ (tO G an t_an ++ (pO G an p_an ++ (zO G an z_an ++ []))))) (As := [.int x1]) (rest := []) C hw hl.1 kX8_noClass ml_X8_197 (c_X8_noClass l G am as_ ar ac an ath ah _ m_am t_an p_an x1 u1 e1) (CutX.take mO_f (CutX.take tO_f (CutX.take pO_f CutX.none))) _ (gx_h mO_o) rfl ⟨rfl, rfl⟩ ⟨Nat.le_of_ble_eq_true rfl, Nat.le_of_ble_eq_true rfl⟩ rfl ⟨Nat.zero_le _, Nat.zero_le _⟩ rfl (Nat.le_of_ble_eq_true rfl) dX8_sizes_2 (fun H locs hw => ?_)
  refine lv_if_eq (tgt := 14) C.1 C.2.1 dX8_sizes_5 (by decide) (fun hc => ?_) (fun hc => ?_)
  · replace hf := ifp hf hc
    refine r_iload0 C hl 2 rfl dX8_sizes_14 ?_
    rcases Decidable.em (x2 = 0) with hc | h0_
    · replace hf := ifp hf hc
      refine lv_tableIn (tgt := 48) C.1 C.2.1 dX8_sizes_15 (by rw [hc]; decide) (by rw [hc]; decide) (by rw [hc]; rfl) (by decide) ?_
      refine r_aload0 C hl 0 rfl dX8_sizes_48 ?_
      refine r_iload0 C hl 1 rfl dX8_sizes_49 ?_
      obtain ⟨u11, e11, hf⟩ := bx hf
      refine r_callSi (ws' := (mO G am as_ ar ac an ath ah m_am ++ (tO G an t_an ++ (pO G an p_an ++ (zO G an z_an ++ []))))) (As := [.int x1]) (rest := [.ref (am 99)]) C hw hl.1 kX0_framesOf ml_X8_200 (c_X0_framesOf l G _ x1 u11 e11) CutX.none ⟨rfl, rfl⟩ ⟨Nat.le_of_ble_eq_true rfl, Nat.le_of_ble_eq_true rfl⟩ rfl ⟨Nat.zero_le _, Nat.zero_le _⟩ rfl (Nat.le_of_ble_eq_true rfl) dX8_sizes_50 (fun H locs hw => ?_)
      obtain ⟨u12, e12, hf⟩ := bx hf
      refine r_callVi (ws' := (mO G am as_ ar ac an ath ah u12.2 ++ (tO G an t_an ++ (pO G an p_an ++ (zO G an z_an ++ []))))) (As := [.int u11]) (rest := []) C hw hl.1 kX8_answer ml_X8_99 (c_X8_answer l G am as_ ar ac an ath ah _ m_am u11 u12 e12) (CutX.take mO_f CutX.none) _ (gx_h mO_o) rfl ⟨rfl, rfl⟩ ⟨Nat.le_of_ble_eq_true rfl, Nat.le_of_ble_eq_true rfl⟩ rfl ⟨Nat.zero_le _, Nat.zero_le _⟩ rfl (Nat.le_of_ble_eq_true rfl) dX8_sizes_53 (fun H locs hw => ?_)
      exact fin_i C hw (Option.some.inj hf) (fun o => o.1) (fun o => (mO G am as_ ar ac an ath ah o.2 ++ (tO G an t_an ++ (pO G an p_an ++ (zO G an z_an ++ []))))) rfl rfl dX8_sizes_56
    replace hf := ifn hf h0_
    rcases Decidable.em (x2 = 1) with hc | h1_
    · replace hf := ifp hf hc
      refine lv_tableIn (tgt := 57) C.1 C.2.1 dX8_sizes_15 (by rw [hc]; decide) (by rw [hc]; decide) (by rw [hc]; rfl) (by decide) ?_
      refine r_aload0 C hl 0 rfl dX8_sizes_57 ?_
      refine r_iload0 C hl 1 rfl dX8_sizes_58 ?_
      obtain ⟨u9, e9, hf⟩ := bx hf
      refine r_callSi (ws' := (mO G am as_ ar ac an ath ah m_am ++ (tO G an t_an ++ (pO G an p_an ++ (zO G an z_an ++ []))))) (As := [.int x1]) (rest := [.ref (am 99)]) C hw hl.1 kX0_slotsOf ml_X8_203 (c_X0_slotsOf l G _ x1 u9 e9) CutX.none ⟨rfl, rfl⟩ ⟨Nat.le_of_ble_eq_true rfl, Nat.le_of_ble_eq_true rfl⟩ rfl ⟨Nat.zero_le _, Nat.zero_le _⟩ rfl (Nat.le_of_ble_eq_true rfl) dX8_sizes_59 (fun H locs hw => ?_)
      obtain ⟨u10, e10, hf⟩ := bx hf
      refine r_callVi (ws' := (mO G am as_ ar ac an ath ah u10.2 ++ (tO G an t_an ++ (pO G an p_an ++ (zO G an z_an ++ []))))) (As := [.int u9]) (rest := []) C hw hl.1 kX8_answer ml_X8_99 (c_X8_answer l G am as_ ar ac an ath ah _ m_am u9 u10 e10) (CutX.take mO_f CutX.none) _ (gx_h mO_o) rfl ⟨rfl, rfl⟩ ⟨Nat.le_of_ble_eq_true rfl, Nat.le_of_ble_eq_true rfl⟩ rfl ⟨Nat.zero_le _, Nat.zero_le _⟩ rfl (Nat.le_of_ble_eq_true rfl) dX8_sizes_62 (fun H locs hw => ?_)
      exact fin_i C hw (Option.some.inj hf) (fun o => o.1) (fun o => (mO G am as_ ar ac an ath ah o.2 ++ (tO G an t_an ++ (pO G an p_an ++ (zO G an z_an ++ []))))) rfl rfl dX8_sizes_65
    replace hf := ifn hf h1_
    rcases Decidable.em (x2 = 2) with hc | h2_
    · replace hf := ifp hf hc
      refine lv_tableIn (tgt := 66) C.1 C.2.1 dX8_sizes_15 (by rw [hc]; decide) (by rw [hc]; decide) (by rw [hc]; rfl) (by decide) ?_
      refine r_aload0 C hl 0 rfl dX8_sizes_66 ?_
      refine r_iload0 C hl 1 rfl dX8_sizes_67 ?_
      obtain ⟨u7, e7, hf⟩ := bx hf
      refine r_callSi (ws' := (mO G am as_ ar ac an ath ah m_am ++ (tO G an t_an ++ (pO G an p_an ++ (zO G an z_an ++ []))))) (As := [.int x1]) (rest := [.ref (am 99)]) C hw hl.1 kX0_spareOf ml_X8_206 (c_X0_spareOf l G _ x1 u7 e7) CutX.none ⟨rfl, rfl⟩ ⟨Nat.le_of_ble_eq_true rfl, Nat.le_of_ble_eq_true rfl⟩ rfl ⟨Nat.zero_le _, Nat.zero_le _⟩ rfl (Nat.le_of_ble_eq_true rfl) dX8_sizes_68 (fun H locs hw => ?_)
      obtain ⟨u8, e8, hf⟩ := bx hf
      refine r_callVi (ws' := (mO G am as_ ar ac an ath ah u8.2 ++ (tO G an t_an ++ (pO G an p_an ++ (zO G an z_an ++ []))))) (As := [.int u7]) (rest := []) C hw hl.1 kX8_answer ml_X8_99 (c_X8_answer l G am as_ ar ac an ath ah _ m_am u7 u8 e8) (CutX.take mO_f CutX.none) _ (gx_h mO_o) rfl ⟨rfl, rfl⟩ ⟨Nat.le_of_ble_eq_true rfl, Nat.le_of_ble_eq_true rfl⟩ rfl ⟨Nat.zero_le _, Nat.zero_le _⟩ rfl (Nat.le_of_ble_eq_true rfl) dX8_sizes_71 (fun H locs hw => ?_)
      exact fin_i C hw (Option.some.inj hf) (fun o => o.1) (fun o => (mO G am as_ ar ac an ath ah o.2 ++ (tO G an t_an ++ (pO G an p_an ++ (zO G an z_an ++ []))))) rfl rfl dX8_sizes_74
    replace hf := ifn hf h2_
    rcases Decidable.em (x2 = 3) with hc | h3_
    · replace hf := ifp hf hc
      refine lv_tableIn (tgt := 75) C.1 C.2.1 dX8_sizes_15 (by rw [hc]; decide) (by rw [hc]; decide) (by rw [hc]; rfl) (by decide) ?_
      refine r_aload0 C hl 0 rfl dX8_sizes_75 ?_
      refine r_aload0 C hl 0 rfl dX8_sizes_76 ?_
      refine r_get C hw _ (gx_h mO_o) 9 fl_X8_37 rfl dX8_sizes_77 ?_
      refine r_get C hw _ (gx_t (gx_h tO_o)) 2 fl_X8_105 rfl dX8_sizes_80 ?_
      refine r_get C hw _ (gx_t (gx_t (gx_h pO_o))) 3 fl_X8_120 rfl dX8_sizes_83 ?_
      refine r_iload0 C hl 1 rfl dX8_sizes_86 ?_
      obtain ⟨u5, e5, hf⟩ := bx hf
      refine r_callVi (ws' := (mO G am as_ ar ac an ath ah m_am ++ (tO G an t_an ++ (pO G an p_an ++ (zO G an z_an ++ []))))) (As := [.int x1]) (rest := [.ref (am 99)]) C hw hl.1 kX7_countOf ml_X8_209 (c_X7_countOf l G an _ z_an x1 u5 e5) (CutX.skip (CutX.skip (CutX.skip (CutX.take zO_f CutX.none)))) _ (gx_t (gx_t (gx_t (gx_h zO_o)))) rfl ⟨rfl, rfl⟩ ⟨Nat.le_of_ble_eq_true rfl, Nat.le_of_ble_eq_true rfl⟩ rfl ⟨Nat.zero_le _, Nat.zero_le _⟩ rfl (Nat.le_of_ble_eq_true rfl) dX8_sizes_87 (fun H locs hw => ?_)
      obtain ⟨u6, e6, hf⟩ := bx hf
      refine r_callVi (ws' := (mO G am as_ ar ac an ath ah u6.2 ++ (tO G an t_an ++ (pO G an p_an ++ (zO G an z_an ++ []))))) (As := [.int u5]) (rest := []) C hw hl.1 kX8_answer ml_X8_99 (c_X8_answer l G am as_ ar ac an ath ah _ m_am u5 u6 e6) (CutX.take mO_f CutX.none) _ (gx_h mO_o) rfl ⟨rfl, rfl⟩ ⟨Nat.le_of_ble_eq_true rfl, Nat.le_of_ble_eq_true rfl⟩ rfl ⟨Nat.zero_le _, Nat.zero_le _⟩ rfl (Nat.le_of_ble_eq_true rfl) dX8_sizes_90 (fun H locs hw => ?_)
      exact fin_i C hw (Option.some.inj hf) (fun o => o.1) (fun o => (mO G am as_ ar ac an ath ah o.2 ++ (tO G an t_an ++ (pO G an p_an ++ (zO G an z_an ++ []))))) rfl rfl dX8_sizes_93
    replace hf := ifn hf h3_
    rcases Decidable.em (x2 = 4) with hc | h4_
    · replace hf := ifp hf hc
      refine lv_tableIn (tgt := 94) C.1 C.2.1 dX8_sizes_15 (by rw [hc]; decide) (by rw [hc]; decide) (by rw [hc]; rfl) (by decide) ?_
      refine r_aload0 C hl 0 rfl dX8_sizes_94 ?_
      refine r_aload0 C hl 0 rfl dX8_sizes_95 ?_
      refine r_get C hw _ (gx_h mO_o) 9 fl_X8_37 rfl dX8_sizes_96 ?_
      refine r_get C hw _ (gx_t (gx_h tO_o)) 2 fl_X8_105 rfl dX8_sizes_99 ?_
      refine r_get C hw _ (gx_t (gx_t (gx_h pO_o))) 3 fl_X8_120 rfl dX8_sizes_102 ?_
      refine r_iload0 C hl 1 rfl dX8_sizes_105 ?_
      obtain ⟨u3, e3, hf⟩ := bx hf
      refine r_callVi (ws' := (mO G am as_ ar ac an ath ah m_am ++ (tO G an t_an ++ (pO G an p_an ++ (zO G an z_an ++ []))))) (As := [.int x1]) (rest := [.ref (am 99)]) C hw hl.1 kX7_pagesOf ml_X8_212 (c_X7_pagesOf l G an _ z_an x1 u3 e3) (CutX.skip (CutX.skip (CutX.skip (CutX.take zO_f CutX.none)))) _ (gx_t (gx_t (gx_t (gx_h zO_o)))) rfl ⟨rfl, rfl⟩ ⟨Nat.le_of_ble_eq_true rfl, Nat.le_of_ble_eq_true rfl⟩ rfl ⟨Nat.zero_le _, Nat.zero_le _⟩ rfl (Nat.le_of_ble_eq_true rfl) dX8_sizes_106 (fun H locs hw => ?_)
      obtain ⟨u4, e4, hf⟩ := bx hf
      refine r_callVi (ws' := (mO G am as_ ar ac an ath ah u4.2 ++ (tO G an t_an ++ (pO G an p_an ++ (zO G an z_an ++ []))))) (As := [.int u3]) (rest := []) C hw hl.1 kX8_answer ml_X8_99 (c_X8_answer l G am as_ ar ac an ath ah _ m_am u3 u4 e4) (CutX.take mO_f CutX.none) _ (gx_h mO_o) rfl ⟨rfl, rfl⟩ ⟨Nat.le_of_ble_eq_true rfl, Nat.le_of_ble_eq_true rfl⟩ rfl ⟨Nat.zero_le _, Nat.zero_le _⟩ rfl (Nat.le_of_ble_eq_true rfl) dX8_sizes_109 (fun H locs hw => ?_)
      exact fin_i C hw (Option.some.inj hf) (fun o => o.1) (fun o => (mO G am as_ ar ac an ath ah o.2 ++ (tO G an t_an ++ (pO G an p_an ++ (zO G an z_an ++ []))))) rfl rfl dX8_sizes_112
    replace hf := ifn hf h4_
    refine lv_tableOut (tgt := 113) C.1 C.2.1 dX8_sizes_15 (sw_out5 h0_ h1_ h2_ h3_ h4_) (by decide) ?_
    refine r_aload0 C hl 0 rfl dX8_sizes_113 ?_
    refine lv_iconst (v := 1) C.1 C.2.1 dX8_sizes_114 (by decide) ?_
    obtain ⟨u2, e2, hf⟩ := bx hf
    refine r_callVi (ws' := (mO G am as_ ar ac an ath ah u2.2 ++ (tO G an t_an ++ (pO G an p_an ++ (zO G an z_an ++ []))))) (As := [.int 1]) (rest := []) C hw hl.1 kX8_refuse ml_X8_63 (c_X8_refuse l G am as_ ar ac an ath ah _ m_am 1 u2 e2) (CutX.take mO_f CutX.none) _ (gx_h mO_o) rfl ⟨rfl, rfl⟩ ⟨Nat.le_of_ble_eq_true rfl, Nat.le_of_ble_eq_true rfl⟩ rfl ⟨Nat.zero_le _, Nat.zero_le _⟩ rfl (Nat.le_of_ble_eq_true rfl) dX8_sizes_115 (fun H locs hw => ?_)
    exact fin_i C hw (Option.some.inj hf) (fun o => o.1) (fun o => (mO G am as_ ar ac an ath ah o.2 ++ (tO G an t_an ++ (pO G an p_an ++ (zO G an z_an ++ []))))) rfl rfl dX8_sizes_118
  · replace hf := ifn hf hc
    refine r_aload0 C hl 0 rfl dX8_sizes_8 ?_
    refine lv_iconst (v := 1) C.1 C.2.1 dX8_sizes_9 (by decide) ?_
    obtain ⟨u13, e13, hf⟩ := bx hf
    refine r_callVi (ws' := (mO G am as_ ar ac an ath ah u13.2 ++ (tO G an t_an ++ (pO G an p_an ++ (zO G an z_an ++ []))))) (As := [.int 1]) (rest := []) C hw hl.1 kX8_refuse ml_X8_63 (c_X8_refuse l G am as_ ar ac an ath ah _ m_am 1 u13 e13) (CutX.take mO_f CutX.none) _ (gx_h mO_o) rfl ⟨rfl, rfl⟩ ⟨Nat.le_of_ble_eq_true rfl, Nat.le_of_ble_eq_true rfl⟩ rfl ⟨Nat.zero_le _, Nat.zero_le _⟩ rfl (Nat.le_of_ble_eq_true rfl) dX8_sizes_10 (fun H locs hw => ?_)
    exact fin_i C hw (Option.some.inj hf) (fun o => o.1) (fun o => (mO G am as_ ar ac an ath ah o.2 ++ (tO G an t_an ++ (pO G an p_an ++ (zO G an z_an ++ []))))) rfl rfl dX8_sizes_13
set_option maxHeartbeats 4000000 in
set_option maxRecDepth 100000 in
theorem c_X8_gain (l : Launch) (G : GG) (am : Nat → Nat) (as_ : Nat → Nat) (ar : Nat → Nat) (ac : Nat → Nat) (an : Nat → Nat) (ath : Nat → Nat) (ah : Nat → Nat) (sz : Nat) (m_am : Pic) (t_an : Pic) (p_an : Pic) (p_ath : Pic) (z_an : Pic) (z_ath : Pic)  (out : Int32 × Pic × Pic × Pic) (hf : f_X8_gain m_am t_an p_an p_ath z_an z_ath = some out) : Met l yX8_gain (.code yX8_gain cX8_gain 1 (some .int) :: BT) ({ frames := 5, cells := 0, slots := 0, locals := 113 }) (va_Pc [.ref (am 99)] (PreW G sz (mO G am as_ ar ac an ath ah m_am ++ (tO G an t_an ++ (pO G an p_an ++ (pO G ath p_ath ++ (zO G an z_an ++ (zO G ath z_ath ++ [])))))))) (Ans G out.1 (va_A (mO G am as_ ar ac an ath ah m_am ++ (tO G an t_an ++ (pO G an p_an ++ (pO G ath p_ath ++ (zO G an z_an ++ (zO G ath z_ath ++ [])))))) sz) (mO G am as_ ar ac an ath ah out.2.1 ++ (tO G an t_an ++ (pO G an p_an ++ (pO G ath out.2.2.1 ++ (zO G an z_an ++ (zO G ath out.2.2.2 ++ []))))))) 0 0 (va_A (mO G am as_ ar ac an ath ah m_am ++ (tO G an t_an ++ (pO G an p_an ++ (pO G ath p_ath ++ (zO G an z_an ++ (zO G ath z_ath ++ [])))))) sz) := by
  refine Met.into (by decide) (Nat.le_of_ble_eq_true rfl) ?_
  intro p e s m below meth c C hsz ls hl hw
  have hl : lv_has ls 1 [(0, .ref (am 99))] := hl
  clear hsz
  generalize va_A (mO G am as_ ar ac an ath ah m_am ++ (tO G an t_an ++ (pO G an p_an ++ (pO G ath p_ath ++ (zO G an z_an ++ (zO G ath z_ath ++ [])))))) sz = A at hw ⊢
  unfold f_X8_gain at hf
  refine r_aload0 C hl 0 rfl dX8_gain_0 ?_
  refine r_get C hw _ (gx_h mO_o) 2 fl_X8_85 rfl dX8_gain_1 ?_
  refine lv_if_ne (tgt := 13) C.1 C.2.1 dX8_gain_4 (by decide) (fun hc => ?_) (fun hc => ?_)
  · replace hf := ifn hf hc
    refine r_aload0 C hl 0 rfl dX8_gain_13 ?_
    refine r_get C hw _ (gx_h mO_o) 10 fl_X8_44 rfl dX8_gain_14 ?_
    refine r_aload0 C hl 0 rfl dX8_gain_17 ?_
    refine r_get C hw _ (gx_h mO_o) 9 fl_X8_37 rfl dX8_gain_18 ?_
    refine r_get C hw _ (gx_t (gx_h tO_o)) 2 fl_X8_105 rfl dX8_gain_21 ?_
    obtain ⟨u1, e1, hf⟩ := bx hf
    refine r_callVv (ws' := (mO G am as_ ar ac an ath ah m_am ++ (tO G an t_an ++ (pO G an p_an ++ (pO G ath u1.1 ++ (zO G an z_an ++ (zO G ath u1.2 ++ []))))))) (As := [.ref (an 99)]) (rest := []) C hw hl.1 kX3_copyFrom ml_X8_215 (c_X3_copyFrom l G ath an _ p_an p_ath z_an z_ath u1 e1) (CutX.skip (CutX.skip (CutX.take pO_f (CutX.take pO_f (CutX.take zO_f (CutX.take zO_f CutX.none)))))) _ (gx_t (gx_t (gx_t (gx_h pO_o)))) rfl ⟨rfl, rfl⟩ ⟨Nat.le_of_ble_eq_true rfl, Nat.le_of_ble_eq_true rfl⟩ rfl ⟨Nat.zero_le _, Nat.zero_le _⟩ rfl (Nat.le_of_ble_eq_true rfl) dX8_gain_24 (fun H locs hw => ?_)
    refine r_aload0 C hl 0 rfl dX8_gain_27 ?_
    refine r_aload0 C hl 0 rfl dX8_gain_28 ?_
    refine r_get C hw _ (gx_h mO_o) 10 fl_X8_44 rfl dX8_gain_29 ?_
    obtain ⟨u2, e2, hf⟩ := bx hf
    refine r_callVi (ws' := (mO G am as_ ar ac an ath ah m_am ++ (tO G an t_an ++ (pO G an p_an ++ (pO G ath u2.2.1 ++ (zO G an z_an ++ (zO G ath u2.2.2 ++ []))))))) (As := []) (rest := [.ref (am 99)]) C hw hl.1 kX3_compactAll ml_X8_219 (c_X3_compactAll l G ath _ u1.1 u1.2 u2 e2) (CutX.skip (CutX.skip (CutX.skip (CutX.take pO_f (CutX.skip (CutX.take zO_f CutX.none)))))) _ (gx_t (gx_t (gx_t (gx_h pO_o)))) rfl ⟨rfl, rfl⟩ ⟨Nat.le_of_ble_eq_true rfl, Nat.le_of_ble_eq_true rfl⟩ rfl ⟨Nat.zero_le _, Nat.zero_le _⟩ rfl (Nat.le_of_ble_eq_true rfl) dX8_gain_32 (fun H locs hw => ?_)
    obtain ⟨u3, e3, hf⟩ := bx hf
    refine r_callVi (ws' := (mO G am as_ ar ac an ath ah u3.2 ++ (tO G an t_an ++ (pO G an p_an ++ (pO G ath u2.2.1 ++ (zO G an z_an ++ (zO G ath u2.2.2 ++ []))))))) (As := [.int u2.1]) (rest := []) C hw hl.1 kX8_answer ml_X8_99 (c_X8_answer l G am as_ ar ac an ath ah _ m_am u2.1 u3 e3) (CutX.take mO_f CutX.none) _ (gx_h mO_o) rfl ⟨rfl, rfl⟩ ⟨Nat.le_of_ble_eq_true rfl, Nat.le_of_ble_eq_true rfl⟩ rfl ⟨Nat.zero_le _, Nat.zero_le _⟩ rfl (Nat.le_of_ble_eq_true rfl) dX8_gain_35 (fun H locs hw => ?_)
    exact fin_i C hw (Option.some.inj hf) (fun o => o.1) (fun o => (mO G am as_ ar ac an ath ah o.2.1 ++ (tO G an t_an ++ (pO G an p_an ++ (pO G ath o.2.2.1 ++ (zO G an z_an ++ (zO G ath o.2.2.2 ++ []))))))) rfl rfl dX8_gain_38
  · replace hf := ifp hf hc
    refine r_aload0 C hl 0 rfl dX8_gain_7 ?_
    refine lv_iconst (v := 1) C.1 C.2.1 dX8_gain_8 (by decide) ?_
    obtain ⟨u4, e4, hf⟩ := bx hf
    refine r_callVi (ws' := (mO G am as_ ar ac an ath ah u4.2 ++ (tO G an t_an ++ (pO G an p_an ++ (pO G ath p_ath ++ (zO G an z_an ++ (zO G ath z_ath ++ []))))))) (As := [.int 1]) (rest := []) C hw hl.1 kX8_refuse ml_X8_63 (c_X8_refuse l G am as_ ar ac an ath ah _ m_am 1 u4 e4) (CutX.take mO_f CutX.none) _ (gx_h mO_o) rfl ⟨rfl, rfl⟩ ⟨Nat.le_of_ble_eq_true rfl, Nat.le_of_ble_eq_true rfl⟩ rfl ⟨Nat.zero_le _, Nat.zero_le _⟩ rfl (Nat.le_of_ble_eq_true rfl) dX8_gain_9 (fun H locs hw => ?_)
    exact fin_i C hw (Option.some.inj hf) (fun o => o.1) (fun o => (mO G am as_ ar ac an ath ah o.2.1 ++ (tO G an t_an ++ (pO G an p_an ++ (pO G ath o.2.2.1 ++ (zO G an z_an ++ (zO G ath o.2.2.2 ++ []))))))) rfl rfl dX8_gain_12
