set_option maxHeartbeats 4000000 in
set_option maxRecDepth 100000 in
theorem c_X8_fault (l : Launch) (G : GG) (am : Nat → Nat) (as_ : Nat → Nat) (ar : Nat → Nat) (ac : Nat → Nat) (an : Nat → Nat) (ath : Nat → Nat) (ah : Nat → Nat) (sz : Nat) (m_am : Pic)  (out : Int32) (hf : f_X8_fault m_am = some out) : Met l yX8_fault (.code yX8_fault cX8_fault 1 (some .int) :: BT) ({ frames := 0, cells := 0, slots := 0, locals := 0 }) (va_Pc [.ref (am 99)] (PreW G sz (mO G am as_ ar ac an ath ah m_am ++ []))) (Ans G out (va_A (mO G am as_ ar ac an ath ah m_am ++ []) sz) (mO G am as_ ar ac an ath ah m_am ++ [])) 0 0 (va_A (mO G am as_ ar ac an ath ah m_am ++ []) sz) := by
  refine Met.into (by decide) (Nat.le_of_ble_eq_true rfl) ?_
  intro p e s m below meth c C hsz ls hl hw
  have hl : lv_has ls 1 [(0, .ref (am 99))] := hl
  clear hsz
  generalize va_A (mO G am as_ ar ac an ath ah m_am ++ []) sz = A at hw ⊢
  unfold f_X8_fault at hf
  refine r_aload0 C hl 0 rfl dX8_fault_0 ?_
  refine r_get C hw _ (gx_h mO_o) 4 fl_X8_71 rfl dX8_fault_1 ?_
  exact fin_i C hw (Option.some.inj hf) (fun o => o) (fun o => (mO G am as_ ar ac an ath ah m_am ++ [])) rfl rfl dX8_fault_4
set_option maxHeartbeats 4000000 in
set_option maxRecDepth 100000 in
theorem c_X8_where (l : Launch) (G : GG) (am : Nat → Nat) (as_ : Nat → Nat) (ar : Nat → Nat) (ac : Nat → Nat) (an : Nat → Nat) (ath : Nat → Nat) (ah : Nat → Nat) (sz : Nat) (m_am : Pic)  (out : Int32) (hf : f_X8_where m_am = some out) : Met l yX8_where (.code yX8_where cX8_where 1 (some .int) :: BT) ({ frames := 0, cells := 0, slots := 0, locals := 0 }) (va_Pc [.ref (am 99)] (PreW G sz (mO G am as_ ar ac an ath ah m_am ++ []))) (Ans G out (va_A (mO G am as_ ar ac an ath ah m_am ++ []) sz) (mO G am as_ ar ac an ath ah m_am ++ [])) 0 0 (va_A (mO G am as_ ar ac an ath ah m_am ++ []) sz) := by
  refine Met.into (by decide) (Nat.le_of_ble_eq_true rfl) ?_
  intro p e s m below meth c C hsz ls hl hw
  have hl : lv_has ls 1 [(0, .ref (am 99))] := hl
  clear hsz
  generalize va_A (mO G am as_ ar ac an ath ah m_am ++ []) sz = A at hw ⊢
  unfold f_X8_where at hf
  refine r_aload0 C hl 0 rfl dX8_where_0 ?_
  refine r_get C hw _ (gx_h mO_o) 3 fl_X8_102 rfl dX8_where_1 ?_
  refine lv_iconst (v := 4) C.1 C.2.1 dX8_where_4 (by decide) ?_
  refine lv_icmp_ne (tgt := 15) C.1 C.2.1 dX8_where_5 (by decide) (fun hc => ?_) (fun hc => ?_)
  · replace hf := ifn hf hc
    refine lv_iconst (v := (-1)) C.1 C.2.1 dX8_where_15 (by decide) ?_
    exact fin_i C hw (Option.some.inj hf) (fun o => o) (fun o => (mO G am as_ ar ac an ath ah m_am ++ [])) rfl rfl dX8_where_16
  · replace hf := ifp hf hc
    refine r_aload0 C hl 0 rfl dX8_where_8 ?_
    refine r_get C hw _ (gx_h mO_o) 5 fl_X8_78 rfl dX8_where_9 ?_
    refine lv_goto (tgt := 16) C.1 C.2.1 dX8_where_12 (by decide) ?_
    exact fin_i C hw (Option.some.inj hf) (fun o => o) (fun o => (mO G am as_ ar ac an ath ah m_am ++ [])) rfl rfl dX8_where_16
set_option maxHeartbeats 4000000 in
set_option maxRecDepth 100000 in
theorem c_X8_size (l : Launch) (G : GG) (am : Nat → Nat) (as_ : Nat → Nat) (ar : Nat → Nat) (ac : Nat → Nat) (an : Nat → Nat) (ath : Nat → Nat) (ah : Nat → Nat) (sz : Nat) (m_am : Pic) (h_ah : Pic) (x1 : Int32) (out : Int32) (hf : f_X8_size m_am h_ah x1 = some out) : Met l yX8_size (.code yX8_size cX8_size 2 (some .int) :: BT) ({ frames := 0, cells := 0, slots := 0, locals := 0 }) (va_Pc [.ref (am 99), .int x1] (PreW G sz (mO G am as_ ar ac an ath ah m_am ++ (hO G ah rg h_ah ++ [])))) (Ans G out (va_A (mO G am as_ ar ac an ath ah m_am ++ (hO G ah rg h_ah ++ [])) sz) (mO G am as_ ar ac an ath ah m_am ++ (hO G ah rg h_ah ++ []))) 0 0 (va_A (mO G am as_ ar ac an ath ah m_am ++ (hO G ah rg h_ah ++ [])) sz) := by
  refine Met.into (by decide) (Nat.le_of_ble_eq_true rfl) ?_
  intro p e s m below meth c C hsz ls hl hw
  have hl : lv_has ls 2 [(0, .ref (am 99)), (1, .int x1)] := hl
  clear hsz
  generalize va_A (mO G am as_ ar ac an ath ah m_am ++ (hO G ah rg h_ah ++ [])) sz = A at hw ⊢
  unfold f_X8_size at hf
  refine r_iload0 C hl 1 rfl dX8_size_0 ?_
  rcases Decidable.em (x1 = 0) with hc | h0_
  · replace hf := ifp hf hc
    refine lv_lookup (off := 27) (tgt := 28) C.1 C.2.1 dX8_size_1 (by decide) (by rw [hc] <;> rfl) (by decide) ?_
    refine r_aload0 C hl 0 rfl dX8_size_28 ?_
    refine r_get C hw _ (gx_h mO_o) 1 fl_X8_55 rfl dX8_size_29 ?_
    exact fin_i C hw (Option.some.inj hf) (fun o => o) (fun o => (mO G am as_ ar ac an ath ah m_am ++ (hO G ah rg h_ah ++ []))) rfl rfl dX8_size_32
  replace hf := ifn hf h0_
  rcases Decidable.em (x1 = 1) with hc | h1_
  · replace hf := ifp hf hc
    refine lv_lookup (off := 32) (tgt := 33) C.1 C.2.1 dX8_size_1 (by decide) (by rw [hc] <;> rfl) (by decide) ?_
    refine r_aload0 C hl 0 rfl dX8_size_33 ?_
    refine r_get C hw _ (gx_h mO_o) 11 fl_X8_51 rfl dX8_size_34 ?_
    refine r_get C hw _ (gx_t (gx_h hO_o)) 2 fl_X8_366 rfl dX8_size_37 ?_
    exact fin_i C hw (Option.some.inj hf) (fun o => o) (fun o => (mO G am as_ ar ac an ath ah m_am ++ (hO G ah rg h_ah ++ []))) rfl rfl dX8_size_40
  replace hf := ifn hf h1_
  refine lv_lookup (off := 40) (tgt := 41) C.1 C.2.1 dX8_size_1 (by decide) ((lv_osw h0_ (by decide)).trans ((lv_osw h1_ (by decide)).trans (rfl))) (by decide) ?_
  refine lv_iconst (v := (-1)) C.1 C.2.1 dX8_size_41 (by decide) ?_
  exact fin_i C hw (Option.some.inj hf) (fun o => o) (fun o => (mO G am as_ ar ac an ath ah m_am ++ (hO G ah rg h_ah ++ []))) rfl rfl dX8_size_42
set_option maxHeartbeats 4000000 in
set_option maxRecDepth 100000 in
theorem c_X8_trouble (l : Launch) (G : GG) (am : Nat → Nat) (as_ : Nat → Nat) (ar : Nat → Nat) (ac : Nat → Nat) (an : Nat → Nat) (ath : Nat → Nat) (ah : Nat → Nat) (sz : Nat) (m_am : Pic)  (out : Int32) (hf : f_X8_trouble m_am = some out) : Met l yX8_trouble (.code yX8_trouble cX8_trouble 1 (some .int) :: BT) ({ frames := 0, cells := 0, slots := 0, locals := 0 }) (va_Pc [.ref (am 99)] (PreW G sz (mO G am as_ ar ac an ath ah m_am ++ []))) (Ans G out (va_A (mO G am as_ ar ac an ath ah m_am ++ []) sz) (mO G am as_ ar ac an ath ah m_am ++ [])) 0 0 (va_A (mO G am as_ ar ac an ath ah m_am ++ []) sz) := by
  refine Met.into (by decide) (Nat.le_of_ble_eq_true rfl) ?_
  intro p e s m below meth c C hsz ls hl hw
  have hl : lv_has ls 1 [(0, .ref (am 99))] := hl
  clear hsz
  generalize va_A (mO G am as_ ar ac an ath ah m_am ++ []) sz = A at hw ⊢
  unfold f_X8_trouble at hf
  refine r_aload0 C hl 0 rfl dX8_trouble_0 ?_
  refine r_get C hw _ (gx_h mO_o) 3 fl_X8_102 rfl dX8_trouble_1 ?_
  exact fin_i C hw (Option.some.inj hf) (fun o => o) (fun o => (mO G am as_ ar ac an ath ah m_am ++ [])) rfl rfl dX8_trouble_4
set_option maxHeartbeats 4000000 in
set_option maxRecDepth 100000 in
theorem c_X8_answer (l : Launch) (G : GG) (am : Nat → Nat) (as_ : Nat → Nat) (ar : Nat → Nat) (ac : Nat → Nat) (an : Nat → Nat) (ath : Nat → Nat) (ah : Nat → Nat) (sz : Nat) (m_am : Pic) (x1 : Int32) (out : Int32 × Pic) (hf : f_X8_answer m_am x1 = some out) : Met l yX8_answer (.code yX8_answer cX8_answer 2 (some .int) :: BT) ({ frames := 0, cells := 0, slots := 0, locals := 0 }) (va_Pc [.ref (am 99), .int x1] (PreW G sz (mO G am as_ ar ac an ath ah m_am ++ []))) (Ans G out.1 (va_A (mO G am as_ ar ac an ath ah m_am ++ []) sz) (mO G am as_ ar ac an ath ah out.2 ++ [])) 0 0 (va_A (mO G am as_ ar ac an ath ah m_am ++ []) sz) := by
  refine Met.into (by decide) (Nat.le_of_ble_eq_true rfl) ?_
  intro p e s m below meth c C hsz ls hl hw
  have hl : lv_has ls 2 [(0, .ref (am 99)), (1, .int x1)] := hl
  clear hsz
  generalize va_A (mO G am as_ ar ac an ath ah m_am ++ []) sz = A at hw ⊢
  unfold f_X8_answer at hf
  refine r_aload0 C hl 0 rfl dX8_answer_0 ?_
  refine lv_iconst (v := 0) C.1 C.2.1 dX8_answer_1 (by decide) ?_
  obtain ⟨m_am1, e1, hf⟩ := bx hf
  refine r_put C hw _ (gx_h mO_o) 3 fp_X8_102 rfl rfl (Nat.le_of_ble_eq_true rfl) (mO G am as_ ar ac an ath ah m_am1 ++ []) (sx_h mO_o (mO_p3 e1)) dX8_answer_2 (fun H locs hw => ?_)
  refine r_iload0 C hl 1 rfl dX8_answer_5 ?_
  exact fin_i C hw (Option.some.inj hf) (fun o => o.1) (fun o => (mO G am as_ ar ac an ath ah o.2 ++ [])) rfl rfl dX8_answer_6
set_option maxHeartbeats 4000000 in
set_option maxRecDepth 100000 in
theorem c_X8_refuse (l : Launch) (G : GG) (am : Nat → Nat) (as_ : Nat → Nat) (ar : Nat → Nat) (ac : Nat → Nat) (an : Nat → Nat) (ath : Nat → Nat) (ah : Nat → Nat) (sz : Nat) (m_am : Pic) (x1 : Int32) (out : Int32 × Pic) (hf : f_X8_refuse m_am x1 = some out) : Met l yX8_refuse (.code yX8_refuse cX8_refuse 2 (some .int) :: BT) ({ frames := 0, cells := 0, slots := 0, locals := 0 }) (va_Pc [.ref (am 99), .int x1] (PreW G sz (mO G am as_ ar ac an ath ah m_am ++ []))) (Ans G out.1 (va_A (mO G am as_ ar ac an ath ah m_am ++ []) sz) (mO G am as_ ar ac an ath ah out.2 ++ [])) 0 0 (va_A (mO G am as_ ar ac an ath ah m_am ++ []) sz) := by
  refine Met.into (by decide) (Nat.le_of_ble_eq_true rfl) ?_
  intro p e s m below meth c C hsz ls hl hw
  have hl : lv_has ls 2 [(0, .ref (am 99)), (1, .int x1)] := hl
  clear hsz
  generalize va_A (mO G am as_ ar ac an ath ah m_am ++ []) sz = A at hw ⊢
  unfold f_X8_refuse at hf
  refine r_aload0 C hl 0 rfl dX8_refuse_0 ?_
  refine r_iload0 C hl 1 rfl dX8_refuse_1 ?_
  obtain ⟨m_am1, e1, hf⟩ := bx hf
  refine r_put C hw _ (gx_h mO_o) 3 fp_X8_102 rfl rfl (Nat.le_of_ble_eq_true rfl) (mO G am as_ ar ac an ath ah m_am1 ++ []) (sx_h mO_o (mO_p3 e1)) dX8_refuse_2 (fun H locs hw => ?_)
  refine lv_iconst (v := (-1)) C.1 C.2.1 dX8_refuse_5 (by decide) ?_
  exact fin_i C hw (Option.some.inj hf) (fun o => o.1) (fun o => (mO G am as_ ar ac an ath ah o.2 ++ [])) rfl rfl dX8_refuse_6
set_option maxHeartbeats 4000000 in
set_option maxRecDepth 100000 in
theorem c_X8_agree (l : Launch) (G : GG) (am : Nat → Nat) (as_ : Nat → Nat) (ar : Nat → Nat) (ac : Nat → Nat) (an : Nat → Nat) (ath : Nat → Nat) (ah : Nat → Nat) (sz : Nat) (m_am : Pic)  (out : Int32 × Pic) (hf : f_X8_agree m_am = some out) : Met l yX8_agree (.code yX8_agree cX8_agree 1 (some .boolean) :: BT) ({ frames := 0, cells := 0, slots := 0, locals := 0 }) (va_Pc [.ref (am 99)] (PreW G sz (mO G am as_ ar ac an ath ah m_am ++ []))) (Ans G out.1 (va_A (mO G am as_ ar ac an ath ah m_am ++ []) sz) (mO G am as_ ar ac an ath ah out.2 ++ [])) 0 0 (va_A (mO G am as_ ar ac an ath ah m_am ++ []) sz) := by
  refine Met.into (by decide) (Nat.le_of_ble_eq_true rfl) ?_
  intro p e s m below meth c C hsz ls hl hw
  have hl : lv_has ls 1 [(0, .ref (am 99))] := hl
  clear hsz
  generalize va_A (mO G am as_ ar ac an ath ah m_am ++ []) sz = A at hw ⊢
  unfold f_X8_agree at hf
  refine r_aload0 C hl 0 rfl dX8_agree_0 ?_
  refine lv_iconst (v := 0) C.1 C.2.1 dX8_agree_1 (by decide) ?_
  obtain ⟨m_am1, e1, hf⟩ := bx hf
  refine r_put C hw _ (gx_h mO_o) 3 fp_X8_102 rfl rfl (Nat.le_of_ble_eq_true rfl) (mO G am as_ ar ac an ath ah m_am1 ++ []) (sx_h mO_o (mO_p3 e1)) dX8_agree_2 (fun H locs hw => ?_)
  refine lv_iconst (v := 1) C.1 C.2.1 dX8_agree_5 (by decide) ?_
  exact fin_z C hw (by decide) (Option.some.inj hf) (fun o => o.1) (fun o => (mO G am as_ ar ac an ath ah o.2 ++ [])) rfl rfl dX8_agree_6
set_option maxHeartbeats 4000000 in
set_option maxRecDepth 100000 in
theorem c_X8_refuseFlatly (l : Launch) (G : GG) (am : Nat → Nat) (as_ : Nat → Nat) (ar : Nat → Nat) (ac : Nat → Nat) (an : Nat → Nat) (ath : Nat → Nat) (ah : Nat → Nat) (sz : Nat) (m_am : Pic) (x1 : Int32) (out : Int32 × Pic) (hf : f_X8_refuseFlatly m_am x1 = some out) : Met l yX8_refuseFlatly (.code yX8_refuseFlatly cX8_refuseFlatly 2 (some .boolean) :: BT) ({ frames := 0, cells := 0, slots := 0, locals := 0 }) (va_Pc [.ref (am 99), .int x1] (PreW G sz (mO G am as_ ar ac an ath ah m_am ++ []))) (Ans G out.1 (va_A (mO G am as_ ar ac an ath ah m_am ++ []) sz) (mO G am as_ ar ac an ath ah out.2 ++ [])) 0 0 (va_A (mO G am as_ ar ac an ath ah m_am ++ []) sz) := by
  refine Met.into (by decide) (Nat.le_of_ble_eq_true rfl) ?_
  intro p e s m below meth c C hsz ls hl hw
  have hl : lv_has ls 2 [(0, .ref (am 99)), (1, .int x1)] := hl
  clear hsz
  generalize va_A (mO G am as_ ar ac an ath ah m_am ++ []) sz = A at hw ⊢
  unfold f_X8_refuseFlatly at hf
  refine r_aload0 C hl 0 rfl dX8_refuseFlatly_0 ?_
  refine r_iload0 C hl 1 rfl dX8_refuseFlatly_1 ?_
  obtain ⟨m_am1, e1, hf⟩ := bx hf
  refine r_put C hw _ (gx_h mO_o) 3 fp_X8_102 rfl rfl (Nat.le_of_ble_eq_true rfl) (mO G am as_ ar ac an ath ah m_am1 ++ []) (sx_h mO_o (mO_p3 e1)) dX8_refuseFlatly_2 (fun H locs hw => ?_)
  refine lv_iconst (v := 0) C.1 C.2.1 dX8_refuseFlatly_5 (by decide) ?_
  exact fin_z C hw (by decide) (Option.some.inj hf) (fun o => o.1) (fun o => (mO G am as_ ar ac an ath ah o.2 ++ [])) rfl rfl dX8_refuseFlatly_6
set_option maxHeartbeats 4000000 in
set_option maxRecDepth 100000 in
theorem c_X8_noData (l : Launch) (G : GG) (am : Nat → Nat) (as_ : Nat → Nat) (ar : Nat → Nat) (ac : Nat → Nat) (an : Nat → Nat) (ath : Nat → Nat) (ah : Nat → Nat) (sz : Nat) (m_am : Pic) (s_as_ : Pic) (x1 : Int32) (out : Int32) (hf : f_X8_noData m_am s_as_ x1 = some out) : Met l yX8_noData (.code yX8_noData cX8_noData 2 (some .boolean) :: BT) ({ frames := 0, cells := 0, slots := 0, locals := 0 }) (va_Pc [.ref (am 99), .int x1] (PreW G sz (mO G am as_ ar ac an ath ah m_am ++ (sO G as_ s_as_ ++ [])))) (Ans G out (va_A (mO G am as_ ar ac an ath ah m_am ++ (sO G as_ s_as_ ++ [])) sz) (mO G am as_ ar ac an ath ah m_am ++ (sO G as_ s_as_ ++ []))) 0 0 (va_A (mO G am as_ ar ac an ath ah m_am ++ (sO G as_ s_as_ ++ [])) sz) := by
  refine Met.into (by decide) (Nat.le_of_ble_eq_true rfl) ?_
  intro p e s m below meth c C hsz ls hl hw
  have hl : lv_has ls 2 [(0, .ref (am 99)), (1, .int x1)] := hl
  clear hsz
  generalize va_A (mO G am as_ ar ac an ath ah m_am ++ (sO G as_ s_as_ ++ [])) sz = A at hw ⊢
  unfold f_X8_noData at hf
  refine r_aload0 C hl 0 rfl dX8_noData_0 ?_
  refine r_get C hw _ (gx_h mO_o) 2 fl_X8_85 rfl dX8_noData_1 ?_
  refine lv_if_eq (tgt := 22) C.1 C.2.1 dX8_noData_4 (by decide) (fun hc => ?_) (fun hc => ?_)
  · replace hf := ifp hf hc
    refine lv_iconst (v := 1) C.1 C.2.1 dX8_noData_22 (by decide) ?_
    refine lv_goto (tgt := 27) C.1 C.2.1 dX8_noData_23 (by decide) ?_
    exact fin_z C hw (by decide) (Option.some.inj hf) (fun o => o) (fun o => (mO G am as_ ar ac an ath ah m_am ++ (sO G as_ s_as_ ++ []))) rfl rfl dX8_noData_27
  · replace hf := ifn hf hc
    refine r_iload0 C hl 1 rfl dX8_noData_7 ?_
    refine lv_if_lt (tgt := 22) C.1 C.2.1 dX8_noData_8 (by decide) (fun hc => ?_) (fun hc => ?_)
    · replace hf := ifp hf hc
      refine lv_iconst (v := 1) C.1 C.2.1 dX8_noData_22 (by decide) ?_
      refine lv_goto (tgt := 27) C.1 C.2.1 dX8_noData_23 (by decide) ?_
      exact fin_z C hw (by decide) (Option.some.inj hf) (fun o => o) (fun o => (mO G am as_ ar ac an ath ah m_am ++ (sO G as_ s_as_ ++ []))) rfl rfl dX8_noData_27
    · replace hf := ifn hf hc
      refine r_iload0 C hl 1 rfl dX8_noData_11 ?_
      refine r_aload0 C hl 0 rfl dX8_noData_12 ?_
      refine r_get C hw _ (gx_h mO_o) 6 fl_X8_16 rfl dX8_noData_13 ?_
      refine r_get C hw _ (gx_t (gx_h sO_o)) 3 fl_X8_96 rfl dX8_noData_16 ?_
      refine lv_icmp_lt (tgt := 26) C.1 C.2.1 dX8_noData_19 (by decide) (fun hc => ?_) (fun hc => ?_)
      · replace hf := ifp hf hc
        refine lv_iconst (v := 0) C.1 C.2.1 dX8_noData_26 (by decide) ?_
        exact fin_z C hw (by decide) (Option.some.inj hf) (fun o => o) (fun o => (mO G am as_ ar ac an ath ah m_am ++ (sO G as_ s_as_ ++ []))) rfl rfl dX8_noData_27
      · replace hf := ifn hf hc
        refine lv_iconst (v := 1) C.1 C.2.1 dX8_noData_22 (by decide) ?_
        refine lv_goto (tgt := 27) C.1 C.2.1 dX8_noData_23 (by decide) ?_
        exact fin_z C hw (by decide) (Option.some.inj hf) (fun o => o) (fun o => (mO G am as_ ar ac an ath ah m_am ++ (sO G as_ s_as_ ++ []))) rfl rfl dX8_noData_27
set_option maxHeartbeats 4000000 in
set_option maxRecDepth 100000 in
theorem c_X8_noOp (l : Launch) (G : GG) (am : Nat → Nat) (as_ : Nat → Nat) (ar : Nat → Nat) (ac : Nat → Nat) (an : Nat → Nat) (ath : Nat → Nat) (ah : Nat → Nat) (sz : Nat) (m_am : Pic) (s_as_ : Pic) (x1 : Int32) (out : Int32) (hf : f_X8_noOp m_am s_as_ x1 = some out) : Met l yX8_noOp (.code yX8_noOp cX8_noOp 2 (some .boolean) :: BT) ({ frames := 0, cells := 0, slots := 0, locals := 0 }) (va_Pc [.ref (am 99), .int x1] (PreW G sz (mO G am as_ ar ac an ath ah m_am ++ (sO G as_ s_as_ ++ [])))) (Ans G out (va_A (mO G am as_ ar ac an ath ah m_am ++ (sO G as_ s_as_ ++ [])) sz) (mO G am as_ ar ac an ath ah m_am ++ (sO G as_ s_as_ ++ []))) 0 0 (va_A (mO G am as_ ar ac an ath ah m_am ++ (sO G as_ s_as_ ++ [])) sz) := by
  refine Met.into (by decide) (Nat.le_of_ble_eq_true rfl) ?_
  intro p e s m below meth c C hsz ls hl hw
  have hl : lv_has ls 2 [(0, .ref (am 99)), (1, .int x1)] := hl
  clear hsz
  generalize va_A (mO G am as_ ar ac an ath ah m_am ++ (sO G as_ s_as_ ++ [])) sz = A at hw ⊢
  unfold f_X8_noOp at hf
  refine r_aload0 C hl 0 rfl dX8_noOp_0 ?_
  refine r_get C hw _ (gx_h mO_o) 2 fl_X8_85 rfl dX8_noOp_1 ?_
  refine lv_if_eq (tgt := 22) C.1 C.2.1 dX8_noOp_4 (by decide) (fun hc => ?_) (fun hc => ?_)
  · replace hf := ifp hf hc
    refine lv_iconst (v := 1) C.1 C.2.1 dX8_noOp_22 (by decide) ?_
    refine lv_goto (tgt := 27) C.1 C.2.1 dX8_noOp_23 (by decide) ?_
    exact fin_z C hw (by decide) (Option.some.inj hf) (fun o => o) (fun o => (mO G am as_ ar ac an ath ah m_am ++ (sO G as_ s_as_ ++ []))) rfl rfl dX8_noOp_27
  · replace hf := ifn hf hc
    refine r_iload0 C hl 1 rfl dX8_noOp_7 ?_
    refine lv_if_lt (tgt := 22) C.1 C.2.1 dX8_noOp_8 (by decide) (fun hc => ?_) (fun hc => ?_)
    · replace hf := ifp hf hc
      refine lv_iconst (v := 1) C.1 C.2.1 dX8_noOp_22 (by decide) ?_
      refine lv_goto (tgt := 27) C.1 C.2.1 dX8_noOp_23 (by decide) ?_
      exact fin_z C hw (by decide) (Option.some.inj hf) (fun o => o) (fun o => (mO G am as_ ar ac an ath ah m_am ++ (sO G as_ s_as_ ++ []))) rfl rfl dX8_noOp_27
    · replace hf := ifn hf hc
      refine r_iload0 C hl 1 rfl dX8_noOp_11 ?_
      refine r_aload0 C hl 0 rfl dX8_noOp_12 ?_
      refine r_get C hw _ (gx_h mO_o) 6 fl_X8_16 rfl dX8_noOp_13 ?_
      refine r_get C hw _ (gx_t (gx_h sO_o)) 4 fl_X8_117 rfl dX8_noOp_16 ?_
      refine lv_icmp_lt (tgt := 26) C.1 C.2.1 dX8_noOp_19 (by decide) (fun hc => ?_) (fun hc => ?_)
      · replace hf := ifp hf hc
        refine lv_iconst (v := 0) C.1 C.2.1 dX8_noOp_26 (by decide) ?_
        exact fin_z C hw (by decide) (Option.some.inj hf) (fun o => o) (fun o => (mO G am as_ ar ac an ath ah m_am ++ (sO G as_ s_as_ ++ []))) rfl rfl dX8_noOp_27
      · replace hf := ifn hf hc
        refine lv_iconst (v := 1) C.1 C.2.1 dX8_noOp_22 (by decide) ?_
        refine lv_goto (tgt := 27) C.1 C.2.1 dX8_noOp_23 (by decide) ?_
        exact fin_z C hw (by decide) (Option.some.inj hf) (fun o => o) (fun o => (mO G am as_ ar ac an ath ah m_am ++ (sO G as_ s_as_ ++ []))) rfl rfl dX8_noOp_27
set_option maxHeartbeats 4000000 in
set_option maxRecDepth 100000 in
theorem c_X8_noPage (l : Launch) (G : GG) (am : Nat → Nat) (as_ : Nat → Nat) (ar : Nat → Nat) (ac : Nat → Nat) (an : Nat → Nat) (ath : Nat → Nat) (ah : Nat → Nat) (sz : Nat) (m_am : Pic) (x1 : Int32) (out : Int32) (hf : f_X8_noPage m_am x1 = some out) : Met l yX8_noPage (.code yX8_noPage cX8_noPage 2 (some .boolean) :: BT) ({ frames := 0, cells := 0, slots := 0, locals := 0 }) (va_Pc [.ref (am 99), .int x1] (PreW G sz (mO G am as_ ar ac an ath ah m_am ++ []))) (Ans G out (va_A (mO G am as_ ar ac an ath ah m_am ++ []) sz) (mO G am as_ ar ac an ath ah m_am ++ [])) 0 0 (va_A (mO G am as_ ar ac an ath ah m_am ++ []) sz) := by
  refine Met.into (by decide) (Nat.le_of_ble_eq_true rfl) ?_
  intro p e s m below meth c C hsz ls hl hw
  have hl : lv_has ls 2 [(0, .ref (am 99)), (1, .int x1)] := hl
  clear hsz
  generalize va_A (mO G am as_ ar ac an ath ah m_am ++ []) sz = A at hw ⊢
  unfold f_X8_noPage at hf
  refine r_aload0 C hl 0 rfl dX8_noPage_0 ?_
  refine r_get C hw _ (gx_h mO_o) 2 fl_X8_85 rfl dX8_noPage_1 ?_
  refine lv_if_eq (tgt := 17) C.1 C.2.1 dX8_noPage_4 (by decide) (fun hc => ?_) (fun hc => ?_)
  · replace hf := ifp hf hc
    refine lv_iconst (v := 1) C.1 C.2.1 dX8_noPage_17 (by decide) ?_
    refine lv_goto (tgt := 22) C.1 C.2.1 dX8_noPage_18 (by decide) ?_
    exact fin_z C hw (by decide) (Option.some.inj hf) (fun o => o) (fun o => (mO G am as_ ar ac an ath ah m_am ++ [])) rfl rfl dX8_noPage_22
  · replace hf := ifn hf hc
    refine r_iload0 C hl 1 rfl dX8_noPage_7 ?_
    refine lv_if_lt (tgt := 17) C.1 C.2.1 dX8_noPage_8 (by decide) (fun hc => ?_) (fun hc => ?_)
    · replace hf := ifp hf hc
      refine lv_iconst (v := 1) C.1 C.2.1 dX8_noPage_17 (by decide) ?_
      refine lv_goto (tgt := 22) C.1 C.2.1 dX8_noPage_18 (by decide) ?_
      exact fin_z C hw (by decide) (Option.some.inj hf) (fun o => o) (fun o => (mO G am as_ ar ac an ath ah m_am ++ [])) rfl rfl dX8_noPage_22
    · replace hf := ifn hf hc
      refine r_iload0 C hl 1 rfl dX8_noPage_11 ?_
      refine lv_bipush (v := 30) C.1 C.2.1 dX8_noPage_12 (by decide) ?_
      refine lv_icmp_lt (tgt := 21) C.1 C.2.1 dX8_noPage_14 (by decide) (fun hc => ?_) (fun hc => ?_)
      · replace hf := ifp hf hc
        refine lv_iconst (v := 0) C.1 C.2.1 dX8_noPage_21 (by decide) ?_
        exact fin_z C hw (by decide) (Option.some.inj hf) (fun o => o) (fun o => (mO G am as_ ar ac an ath ah m_am ++ [])) rfl rfl dX8_noPage_22
      · replace hf := ifn hf hc
        refine lv_iconst (v := 1) C.1 C.2.1 dX8_noPage_17 (by decide) ?_
        refine lv_goto (tgt := 22) C.1 C.2.1 dX8_noPage_18 (by decide) ?_
        exact fin_z C hw (by decide) (Option.some.inj hf) (fun o => o) (fun o => (mO G am as_ ar ac an ath ah m_am ++ [])) rfl rfl dX8_noPage_22
set_option maxHeartbeats 4000000 in
set_option maxRecDepth 100000 in
theorem c_X8_noZone (l : Launch) (G : GG) (am : Nat → Nat) (as_ : Nat → Nat) (ar : Nat → Nat) (ac : Nat → Nat) (an : Nat → Nat) (ath : Nat → Nat) (ah : Nat → Nat) (sz : Nat) (m_am : Pic) (t_an : Pic) (p_an : Pic) (z_an : Pic) (x1 : Int32) (out : Int32) (hf : f_X8_noZone m_am t_an p_an z_an x1 = some out) : Met l yX8_noZone (.code yX8_noZone cX8_noZone 2 (some .boolean) :: BT) ({ frames := 1, cells := 0, slots := 0, locals := 21 }) (va_Pc [.ref (am 99), .int x1] (PreW G sz (mO G am as_ ar ac an ath ah m_am ++ (tO G an t_an ++ (pO G an p_an ++ (zO G an z_an ++ [])))))) (Ans G out (va_A (mO G am as_ ar ac an ath ah m_am ++ (tO G an t_an ++ (pO G an p_an ++ (zO G an z_an ++ [])))) sz) (mO G am as_ ar ac an ath ah m_am ++ (tO G an t_an ++ (pO G an p_an ++ (zO G an z_an ++ []))))) 0 0 (va_A (mO G am as_ ar ac an ath ah m_am ++ (tO G an t_an ++ (pO G an p_an ++ (zO G an z_an ++ [])))) sz) := by
  refine Met.into (by decide) (Nat.le_of_ble_eq_true rfl) ?_
  intro p e s m below meth c C hsz ls hl hw
  have hl : lv_has ls 2 [(0, .ref (am 99)), (1, .int x1)] := hl
  clear hsz
  generalize va_A (mO G am as_ ar ac an ath ah m_am ++ (tO G an t_an ++ (pO G an p_an ++ (zO G an z_an ++ [])))) sz = A at hw ⊢
  unfold f_X8_noZone at hf
  refine r_aload0 C hl 0 rfl dX8_noZone_0 ?_
  refine r_get C hw _ (gx_h mO_o) 2 fl_X8_85 rfl dX8_noZone_1 ?_
  refine lv_if_eq (tgt := 24) C.1 C.2.1 dX8_noZone_4 (by decide) (fun hc => ?_) (fun hc => ?_)
  · replace hf := ifp hf hc
    refine lv_iconst (v := 1) C.1 C.2.1 dX8_noZone_24 (by decide) ?_
    refine lv_goto (tgt := 29) C.1 C.2.1 dX8_noZone_25 (by decide) ?_
    exact fin_z C hw (by decide) (Option.some.inj hf) (fun o => o) (fun o => (mO G am as_ ar ac an ath ah m_am ++ (tO G an t_an ++ (pO G an p_an ++ (zO G an z_an ++ []))))) rfl rfl dX8_noZone_29
  · replace hf := ifn hf hc
    refine r_aload0 C hl 0 rfl dX8_noZone_7 ?_
    refine r_get C hw _ (gx_h mO_o) 9 fl_X8_37 rfl dX8_noZone_8 ?_
    refine r_get C hw _ (gx_t (gx_h tO_o)) 2 fl_X8_105 rfl dX8_noZone_11 ?_
    refine r_get C hw _ (gx_t (gx_t (gx_h pO_o))) 3 fl_X8_120 rfl dX8_noZone_14 ?_
    refine r_iload0 C hl 1 rfl dX8_noZone_17 ?_
    obtain ⟨u1, e1, hf⟩ := bx hf
    refine r_callVi (ws' := (mO G am as_ ar ac an ath ah m_am ++ (tO G an t_an ++ (pO G an p_an ++ (zO G an z_an ++ []))))) (As := [.int x1]) (rest := []) C hw hl.1 kX7_has ml_X8_369 (c_X7_has l G an _ z_an x1 u1 e1) (CutX.skip (CutX.skip (CutX.skip (CutX.take zO_f CutX.none)))) _ (gx_t (gx_t (gx_t (gx_h zO_o)))) rfl ⟨rfl, rfl⟩ ⟨Nat.le_of_ble_eq_true rfl, Nat.le_of_ble_eq_true rfl⟩ rfl ⟨Nat.zero_le _, Nat.zero_le _⟩ rfl (Nat.le_of_ble_eq_true rfl) dX8_noZone_18 (fun H locs hw => ?_)
    refine lv_if_ne (tgt := 28) C.1 C.2.1 dX8_noZone_21 (by decide) (fun hc => ?_) (fun hc => ?_)
    · replace hf := ifn hf hc
      refine lv_iconst (v := 0) C.1 C.2.1 dX8_noZone_28 (by decide) ?_
      exact fin_z C hw (by decide) (Option.some.inj hf) (fun o => o) (fun o => (mO G am as_ ar ac an ath ah m_am ++ (tO G an t_an ++ (pO G an p_an ++ (zO G an z_an ++ []))))) rfl rfl dX8_noZone_29
    · replace hf := ifp hf hc
      refine lv_iconst (v := 1) C.1 C.2.1 dX8_noZone_24 (by decide) ?_
      refine lv_goto (tgt := 29) C.1 C.2.1 dX8_noZone_25 (by decide) ?_
      exact fin_z C hw (by decide) (Option.some.inj hf) (fun o => o) (fun o => (mO G am as_ ar ac an ath ah m_am ++ (tO G an t_an ++ (pO G an p_an ++ (zO G an z_an ++ []))))) rfl rfl dX8_noZone_29
set_option maxHeartbeats 4000000 in
set_option maxRecDepth 100000 in
theorem c_X8_noClass (l : Launch) (G : GG) (am : Nat → Nat) (as_ : Nat → Nat) (ar : Nat → Nat) (ac : Nat → Nat) (an : Nat → Nat) (ath : Nat → Nat) (ah : Nat → Nat) (sz : Nat) (m_am : Pic) (t_an : Pic) (p_an : Pic) (x1 : Int32) (out : Int32) (hf : f_X8_noClass m_am t_an p_an x1 = some out) : Met l yX8_noClass (.code yX8_noClass cX8_noClass 2 (some .boolean) :: BT) ({ frames := 1, cells := 0, slots := 0, locals := 21 }) (va_Pc [.ref (am 99), .int x1] (PreW G sz (mO G am as_ ar ac an ath ah m_am ++ (tO G an t_an ++ (pO G an p_an ++ []))))) (Ans G out (va_A (mO G am as_ ar ac an ath ah m_am ++ (tO G an t_an ++ (pO G an p_an ++ []))) sz) (mO G am as_ ar ac an ath ah m_am ++ (tO G an t_an ++ (pO G an p_an ++ [])))) 0 0 (va_A (mO G am as_ ar ac an ath ah m_am ++ (tO G an t_an ++ (pO G an p_an ++ []))) sz) := by
  refine Met.into (by decide) (Nat.le_of_ble_eq_true rfl) ?_
  intro p e s m below meth c C hsz ls hl hw
  have hl : lv_has ls 2 [(0, .ref (am 99)), (1, .int x1)] := hl
  clear hsz
  generalize va_A (mO G am as_ ar ac an ath ah m_am ++ (tO G an t_an ++ (pO G an p_an ++ []))) sz = A at hw ⊢
  unfold f_X8_noClass at hf
  refine r_aload0 C hl 0 rfl dX8_noClass_0 ?_
  refine r_get C hw _ (gx_h mO_o) 2 fl_X8_85 rfl dX8_noClass_1 ?_
  refine lv_if_eq (tgt := 24) C.1 C.2.1 dX8_noClass_4 (by decide) (fun hc => ?_) (fun hc => ?_)
  · replace hf := ifp hf hc
    refine lv_iconst (v := 1) C.1 C.2.1 dX8_noClass_24 (by decide) ?_
    refine lv_goto (tgt := 29) C.1 C.2.1 dX8_noClass_25 (by decide) ?_
    exact fin_z C hw (by decide) (Option.some.inj hf) (fun o => o) (fun o => (mO G am as_ ar ac an ath ah m_am ++ (tO G an t_an ++ (pO G an p_an ++ [])))) rfl rfl dX8_noClass_29
  · replace hf := ifn hf hc
    refine r_iload0 C hl 1 rfl dX8_noClass_7 ?_
    refine r_aload0 C hl 0 rfl dX8_noClass_8 ?_
    refine r_get C hw _ (gx_h mO_o) 9 fl_X8_37 rfl dX8_noClass_9 ?_
    refine r_get C hw _ (gx_t (gx_h tO_o)) 2 fl_X8_105 rfl dX8_noClass_12 ?_
    refine r_get C hw _ (gx_t (gx_t (gx_h pO_o))) 1 fl_X8_111 rfl dX8_noClass_15 ?_
    obtain ⟨u1, e1, hf⟩ := bx hf
    refine r_callSi (ws' := (mO G am as_ ar ac an ath ah m_am ++ (tO G an t_an ++ (pO G an p_an ++ [])))) (As := [.int x1, .int (gS p_an 1)]) (rest := []) C hw hl.1 kX0_isClass ml_X8_372 (c_X0_isClass l G _ x1 (gS p_an 1) u1 e1) CutX.none ⟨rfl, rfl⟩ ⟨Nat.le_of_ble_eq_true rfl, Nat.le_of_ble_eq_true rfl⟩ rfl ⟨Nat.zero_le _, Nat.zero_le _⟩ rfl (Nat.le_of_ble_eq_true rfl) dX8_noClass_18 (fun H locs hw => ?_)
    refine lv_if_ne (tgt := 28) C.1 C.2.1 dX8_noClass_21 (by decide) (fun hc => ?_) (fun hc => ?_)
    · replace hf := ifn hf hc
      refine lv_iconst (v := 0) C.1 C.2.1 dX8_noClass_28 (by decide) ?_
      exact fin_z C hw (by decide) (Option.some.inj hf) (fun o => o) (fun o => (mO G am as_ ar ac an ath ah m_am ++ (tO G an t_an ++ (pO G an p_an ++ [])))) rfl rfl dX8_noClass_29
    · replace hf := ifp hf hc
      refine lv_iconst (v := 1) C.1 C.2.1 dX8_noClass_24 (by decide) ?_
      refine lv_goto (tgt := 29) C.1 C.2.1 dX8_noClass_25 (by decide) ?_
      exact fin_z C hw (by decide) (Option.some.inj hf) (fun o => o) (fun o => (mO G am as_ ar ac an ath ah m_am ++ (tO G an t_an ++ (pO G an p_an ++ [])))) rfl rfl dX8_noClass_29
set_option maxHeartbeats 4000000 in
set_option maxRecDepth 100000 in
theorem c_X8_noCell (l : Launch) (G : GG)  (sz : Nat)  (x0 : Int32) (out : Int32) (hf : f_X8_noCell x0 = some out) : Met l yX8_noCell (.code yX8_noCell cX8_noCell 1 (some .boolean) :: BT) ({ frames := 0, cells := 0, slots := 0, locals := 0 }) (va_Pc [.int x0] (PreW G sz [])) (Ans G out (va_A [] sz) []) 0 0 (va_A [] sz) := by
  refine Met.into (by decide) (Nat.le_of_ble_eq_true rfl) ?_
  intro p e s m below meth c C hsz ls hl hw
  have hl : lv_has ls 1 [(0, .int x0)] := hl
  clear hsz
  generalize va_A [] sz = A at hw ⊢
  unfold f_X8_noCell at hf
  refine r_iload0 C hl 0 rfl dX8_noCell_0 ?_
  refine lv_if_lt (tgt := 10) C.1 C.2.1 dX8_noCell_1 (by decide) (fun hc => ?_) (fun hc => ?_)
  · replace hf := ifp hf hc
    refine lv_iconst (v := 1) C.1 C.2.1 dX8_noCell_10 (by decide) ?_
    refine lv_goto (tgt := 15) C.1 C.2.1 dX8_noCell_11 (by decide) ?_
    exact fin_z C hw (by decide) (Option.some.inj hf) (fun o => o) (fun o => []) rfl rfl dX8_noCell_15
  · replace hf := ifn hf hc
    refine r_iload0 C hl 0 rfl dX8_noCell_4 ?_
    refine lv_bipush (v := 16) C.1 C.2.1 dX8_noCell_5 (by decide) ?_
    refine lv_icmp_lt (tgt := 14) C.1 C.2.1 dX8_noCell_7 (by decide) (fun hc => ?_) (fun hc => ?_)
    · replace hf := ifp hf hc
      refine lv_iconst (v := 0) C.1 C.2.1 dX8_noCell_14 (by decide) ?_
      exact fin_z C hw (by decide) (Option.some.inj hf) (fun o => o) (fun o => []) rfl rfl dX8_noCell_15
    · replace hf := ifn hf hc
      refine lv_iconst (v := 1) C.1 C.2.1 dX8_noCell_10 (by decide) ?_
      refine lv_goto (tgt := 15) C.1 C.2.1 dX8_noCell_11 (by decide) ?_
      exact fin_z C hw (by decide) (Option.some.inj hf) (fun o => o) (fun o => []) rfl rfl dX8_noCell_15
set_option maxHeartbeats 4000000 in
set_option maxRecDepth 100000 in
theorem c_X8_noSize (l : Launch) (G : GG)  (sz : Nat)  (x0 : Int32) (out : Int32) (hf : f_X8_noSize x0 = some out) : Met l yX8_noSize (.code yX8_noSize cX8_noSize 1 (some .boolean) :: BT) ({ frames := 0, cells := 0, slots := 0, locals := 0 }) (va_Pc [.int x0] (PreW G sz [])) (Ans G out (va_A [] sz) []) 0 0 (va_A [] sz) := by
  refine Met.into (by decide) (Nat.le_of_ble_eq_true rfl) ?_
  intro p e s m below meth c C hsz ls hl hw
  have hl : lv_has ls 1 [(0, .int x0)] := hl
  clear hsz
  generalize va_A [] sz = A at hw ⊢
  unfold f_X8_noSize at hf
  refine r_iload0 C hl 0 rfl dX8_noSize_0 ?_
  refine lv_iconst (v := 2) C.1 C.2.1 dX8_noSize_1 (by decide) ?_
  refine lv_icmp_lt (tgt := 11) C.1 C.2.1 dX8_noSize_2 (by decide) (fun hc => ?_) (fun hc => ?_)
  · replace hf := ifp hf hc
    refine lv_iconst (v := 1) C.1 C.2.1 dX8_noSize_11 (by decide) ?_
    refine lv_goto (tgt := 16) C.1 C.2.1 dX8_noSize_12 (by decide) ?_
    exact fin_z C hw (by decide) (Option.some.inj hf) (fun o => o) (fun o => []) rfl rfl dX8_noSize_16
  · replace hf := ifn hf hc
    refine r_iload0 C hl 0 rfl dX8_noSize_5 ?_
    refine lv_bipush (v := 15) C.1 C.2.1 dX8_noSize_6 (by decide) ?_
    refine lv_icmp_le (tgt := 15) C.1 C.2.1 dX8_noSize_8 (by decide) (fun hc => ?_) (fun hc => ?_)
    · replace hf := ifp hf hc
      refine lv_iconst (v := 0) C.1 C.2.1 dX8_noSize_15 (by decide) ?_
      exact fin_z C hw (by decide) (Option.some.inj hf) (fun o => o) (fun o => []) rfl rfl dX8_noSize_16
    · replace hf := ifn hf hc
      refine lv_iconst (v := 1) C.1 C.2.1 dX8_noSize_11 (by decide) ?_
      refine lv_goto (tgt := 16) C.1 C.2.1 dX8_noSize_12 (by decide) ?_
      exact fin_z C hw (by decide) (Option.some.inj hf) (fun o => o) (fun o => []) rfl rfl dX8_noSize_16
set_option maxHeartbeats 4000000 in
set_option maxRecDepth 100000 in
theorem c_X8_noLimit (l : Launch) (G : GG)  (sz : Nat)  (x0 : Int32) (out : Int32) (hf : f_X8_noLimit x0 = some out) : Met l yX8_noLimit (.code yX8_noLimit cX8_noLimit 1 (some .boolean) :: BT) ({ frames := 0, cells := 0, slots := 0, locals := 0 }) (va_Pc [.int x0] (PreW G sz [])) (Ans G out (va_A [] sz) []) 0 0 (va_A [] sz) := by
  refine Met.into (by decide) (Nat.le_of_ble_eq_true rfl) ?_
  intro p e s m below meth c C hsz ls hl hw
  have hl : lv_has ls 1 [(0, .int x0)] := hl
  clear hsz
  generalize va_A [] sz = A at hw ⊢
  unfold f_X8_noLimit at hf
  refine r_iload0 C hl 0 rfl dX8_noLimit_0 ?_
  refine lv_iconst (v := 1) C.1 C.2.1 dX8_noLimit_1 (by decide) ?_
  refine lv_icmp_lt (tgt := 11) C.1 C.2.1 dX8_noLimit_2 (by decide) (fun hc => ?_) (fun hc => ?_)
  · replace hf := ifp hf hc
    refine lv_iconst (v := 1) C.1 C.2.1 dX8_noLimit_11 (by decide) ?_
    refine lv_goto (tgt := 16) C.1 C.2.1 dX8_noLimit_12 (by decide) ?_
    exact fin_z C hw (by decide) (Option.some.inj hf) (fun o => o) (fun o => []) rfl rfl dX8_noLimit_16
  · replace hf := ifn hf hc
    refine r_iload0 C hl 0 rfl dX8_noLimit_5 ?_
    refine lv_bipush (v := 24) C.1 C.2.1 dX8_noLimit_6 (by decide) ?_
    refine lv_icmp_le (tgt := 15) C.1 C.2.1 dX8_noLimit_8 (by decide) (fun hc => ?_) (fun hc => ?_)
    · replace hf := ifp hf hc
      refine lv_iconst (v := 0) C.1 C.2.1 dX8_noLimit_15 (by decide) ?_
      exact fin_z C hw (by decide) (Option.some.inj hf) (fun o => o) (fun o => []) rfl rfl dX8_noLimit_16
    · replace hf := ifn hf hc
      refine lv_iconst (v := 1) C.1 C.2.1 dX8_noLimit_11 (by decide) ?_
      refine lv_goto (tgt := 16) C.1 C.2.1 dX8_noLimit_12 (by decide) ?_
      exact fin_z C hw (by decide) (Option.some.inj hf) (fun o => o) (fun o => []) rfl rfl dX8_noLimit_16
set_option maxHeartbeats 4000000 in
set_option maxRecDepth 100000 in
theorem c_X8_feedNumber (l : Launch) (G : GG) (am : Nat → Nat) (as_ : Nat → Nat) (ar : Nat → Nat) (ac : Nat → Nat) (an : Nat → Nat) (ath : Nat → Nat) (ah : Nat → Nat) (sz : Nat) (m_am : Pic) (x1 : Int32) (out : Pic) (hf : f_X8_feedNumber m_am x1 = some out) : Met l yX8_feedNumber (.code yX8_feedNumber cX8_feedNumber 3 none :: BT) ({ frames := 0, cells := 0, slots := 0, locals := 0 }) (va_Pc [.ref (am 99), .int x1] (PreW G sz (mO G am as_ ar ac an ath ah m_am ++ []))) (Don G (va_A (mO G am as_ ar ac an ath ah m_am ++ []) sz) (mO G am as_ ar ac an ath ah out ++ [])) 0 0 (va_A (mO G am as_ ar ac an ath ah m_am ++ []) sz) := by
  refine Met.into (by decide) (Nat.le_of_ble_eq_true rfl) ?_
  intro p e s m below meth c C hsz ls hl hw
  have hl : lv_has ls 3 [(0, .ref (am 99)), (1, .int x1)] := hl
  clear hsz
  generalize va_A (mO G am as_ ar ac an ath ah m_am ++ []) sz = A at hw ⊢
  have hB_3 : ∀ (k3 : Pic → Int32 → Option (Pic)) (hk3 : ∀ (m_am : Pic) (v2 : Int32), k3 m_am v2 = some out → ∀ (H : Heap) (locs : List Loc), Wd G A s H locs (mO G am as_ ar ac an ath ah m_am ++ []) → ∀ ls : Array Slot, lv_has ls 3 [(0, .ref (am 99)), (1, .int x1), (2, .int v2)] → W p l e ({ frames := 0, cells := 0, slots := 0, locals := 0 }) s m [.ref (am 99), .int x1].toArray below meth c H locs 0 0 (MQ below (Don G A (mO G am as_ ar ac an ath ah out ++ [])) [.ref (am 99), .int x1].toArray s 0 0 A) (F0 m 3 ls [])), ∀ (m_am : Pic) (v2 : Int32), b_X8_feedNumber_3 x1 k3 m_am v2 = some out → ∀ (H : Heap) (locs : List Loc), Wd G A s H locs (mO G am as_ ar ac an ath ah m_am ++ []) → ∀ ls : Array Slot, lv_has ls 3 [(0, .ref (am 99)), (1, .int x1), (2, .int v2)] → W p l e ({ frames := 0, cells := 0, slots := 0, locals := 0 }) s m [.ref (am 99), .int x1].toArray below meth c H locs 0 0 (MQ below (Don G A (mO G am as_ ar ac an ath ah out ++ [])) [.ref (am 99), .int x1].toArray s 0 0 A) (F0 m 3 ls []) := by
    intro k3 hk3 m_am v2 hf H locs hw ls hl
    unfold b_X8_feedNumber_3 at hf
    refine r_iload0 C hl 2 rfl dX8_feedNumber_3 ?_
    refine lv_if_lt (tgt := 49) C.1 C.2.1 dX8_feedNumber_4 (by decide) (fun hc => ?_) (fun hc => ?_)
    · replace hf := ifp hf hc
      exact fin_v C hw (Option.some.inj hf) (fun o => (mO G am as_ ar ac an ath ah o ++ [])) rfl dX8_feedNumber_49
    · replace hf := ifn hf hc
      refine r_aload0 C hl 0 rfl dX8_feedNumber_7 ?_
      refine r_get C hw _ (gx_h mO_o) 1 fl_X8_55 rfl dX8_feedNumber_8 ?_
      refine lv_sipush (v := 900) C.1 C.2.1 dX8_feedNumber_11 (by decide) ?_
      refine lv_icmp_ge (tgt := 49) C.1 C.2.1 dX8_feedNumber_14 (by decide) (fun hc => ?_) (fun hc => ?_)
      · replace hf := ifp hf hc
        exact fin_v C hw (Option.some.inj hf) (fun o => (mO G am as_ ar ac an ath ah o ++ [])) rfl dX8_feedNumber_49
      · replace hf := ifn hf hc
        refine r_aload0 C hl 0 rfl dX8_feedNumber_17 ?_
        refine r_get C hw _ (gx_h mO_o) 0 fl_X8_9 rfl dX8_feedNumber_18 ?_
        refine r_aload0 C hl 0 rfl dX8_feedNumber_21 ?_
        refine r_get C hw _ (gx_h mO_o) 1 fl_X8_55 rfl dX8_feedNumber_22 ?_
        refine r_iload0 C hl 1 rfl dX8_feedNumber_25 ?_
        refine r_iload0 C hl 2 rfl dX8_feedNumber_26 ?_
        refine lv_iushr C.1 C.2.1 dX8_feedNumber_27 rfl ?_
        refine lv_sipush (v := 255) C.1 C.2.1 dX8_feedNumber_28 (by decide) ?_
        refine lv_iand C.1 C.2.1 dX8_feedNumber_31 ?_
        obtain ⟨m_am1, e1, hf⟩ := bx hf
        refine r_iast C hw _ (gx_h mO_g0) e1 (mO G am as_ ar ac an ath ah m_am1 ++ []) (fun h => (sx_h mO_g0 (mO_s0 h))) dX8_feedNumber_32 (fun H locs hw => ?_)
        refine r_aload0 C hl 0 rfl dX8_feedNumber_33 ?_
        refine lv_dup C.1 C.2.1 dX8_feedNumber_34 rfl ?_
        refine r_get C hw _ (gx_h mO_o) 1 fl_X8_55 rfl dX8_feedNumber_35 ?_
        refine lv_iconst (v := 1) C.1 C.2.1 dX8_feedNumber_38 (by decide) ?_
        refine lv_iadd C.1 C.2.1 dX8_feedNumber_39 ?_
        obtain ⟨m_am2, e2, hf⟩ := bx hf
        refine r_put C hw _ (gx_h mO_o) 1 fp_X8_55 rfl rfl (Nat.le_of_ble_eq_true rfl) (mO G am as_ ar ac an ath ah m_am2 ++ []) (sx_h mO_o (mO_p1 e2)) dX8_feedNumber_40 (fun H locs hw => ?_)
        refine r_iinc C hl 2 (v2 + (-8)) [(2, .int (v2 + (-8))), (0, .ref (am 99)), (1, .int x1)] rfl (iinc_e (by decide)) (by decide) rfl dX8_feedNumber_43 (fun ls hl => ?_)
        refine lv_goto (tgt := 3) C.1 C.2.1 dX8_feedNumber_46 (by decide) ?_
        exact hk3 m_am2 (v2 + (-8)) hf _ _ hw _ (lv_sub hl [1, 2, 0] rfl)
  have hL_3 : ∀ n : Nat, ∀ (m_am : Pic) (v2 : Int32), L_X8_feedNumber_3 x1  n m_am v2 = some out → ∀ (H : Heap) (locs : List Loc), Wd G A s H locs (mO G am as_ ar ac an ath ah m_am ++ []) → ∀ ls : Array Slot, lv_has ls 3 [(0, .ref (am 99)), (1, .int x1), (2, .int v2)] → W p l e ({ frames := 0, cells := 0, slots := 0, locals := 0 }) s m [.ref (am 99), .int x1].toArray below meth c H locs 0 0 (MQ below (Don G A (mO G am as_ ar ac an ath ah out ++ [])) [.ref (am 99), .int x1].toArray s 0 0 A) (F0 m 3 ls []) := by
    intro  n
    induction n with
    | zero => intro m_am v2 hf; cases hf
    | succ n ih => exact hB_3 _ ih
  unfold f_X8_feedNumber at hf
  refine lv_bipush (v := 24) C.1 C.2.1 dX8_feedNumber_0 (by decide) ?_
  refine r_istore0 C hl [(2, .int 24), (0, .ref (am 99)), (1, .int x1)] (by decide) rfl dX8_feedNumber_2 (fun ls hl => ?_)
  exact hL_3  FU m_am 24 hf _ _ hw _ (lv_sub hl [1, 2, 0] rfl)
set_option maxHeartbeats 4000000 in
set_option maxRecDepth 100000 in
theorem c_X8_cutData (l : Launch) (G : GG) (am : Nat → Nat) (as_ : Nat → Nat) (ar : Nat → Nat) (ac : Nat → Nat) (an : Nat → Nat) (ath : Nat → Nat) (ah : Nat → Nat) (sz : Nat) (m_am : Pic) (c_ac : Pic) (t_an : Pic) (x1 : Int32) (out : Pic) (hf : f_X8_cutData m_am c_ac t_an x1 = some out) : Met l yX8_cutData (.code yX8_cutData cX8_cutData 2 none :: BT) ({ frames := 4, cells := 0, slots := 0, locals := 95 }) (va_Pc [.ref (am 99), .int x1] (PreW G sz (mO G am as_ ar ac an ath ah m_am ++ (cO G ac c_ac ++ (tO G an t_an ++ []))))) (Don G (va_A (mO G am as_ ar ac an ath ah m_am ++ (cO G ac c_ac ++ (tO G an t_an ++ []))) sz) (mO G am as_ ar ac an ath ah m_am ++ (cO G ac out ++ (tO G an t_an ++ [])))) 0 0 (va_A (mO G am as_ ar ac an ath ah m_am ++ (cO G ac c_ac ++ (tO G an t_an ++ []))) sz) := by
  refine Met.into (by decide) (Nat.le_of_ble_eq_true rfl) ?_
  intro p e s m below meth c C hsz ls hl hw
  have hl : lv_has ls 2 [(0, .ref (am 99)), (1, .int x1)] := hl
  clear hsz
  generalize va_A (mO G am as_ ar ac an ath ah m_am ++ (cO G ac c_ac ++ (tO G an t_an ++ []))) sz = A at hw ⊢
  unfold f_X8_cutData at hf
  refine r_aload0 C hl 0 rfl dX8_cutData_0 ?_
  refine r_get C hw _ (gx_h mO_o) 8 fl_X8_30 rfl dX8_cutData_1 ?_
  refine r_aload0 C hl 0 rfl dX8_cutData_4 ?_
  refine r_get C hw _ (gx_h mO_o) 9 fl_X8_37 rfl dX8_cutData_5 ?_
  refine r_get C hw _ (gx_t (gx_t (gx_h tO_o))) 0 fl_X8_148 rfl dX8_cutData_8 ?_
  refine r_iload0 C hl 1 rfl dX8_cutData_11 ?_
  refine lv_bipush (v := 16) C.1 C.2.1 dX8_cutData_12 (by decide) ?_
  refine lv_imul C.1 C.2.1 dX8_cutData_14 ?_
  obtain ⟨u1, e1, hf⟩ := bx hf
  refine r_callVv (ws' := (mO G am as_ ar ac an ath ah m_am ++ (cO G ac u1 ++ (tO G an t_an ++ [])))) (As := [.ref (an 200), .int (x1 * 16)]) (rest := []) C hw hl.1 kX1_measure ml_X8_172 (c_X1_measure l G ac an _ c_ac t_an (x1 * 16) u1 e1) (CutX.mk (isC := [2, 3, 4, 5, 6, 7, 8, 9, 11]) (isR := [0, 1, 10, 12]) 13 (by decide) rfl rfl rfl rfl (by decide) rfl) _ (gx_t (gx_h cO_o)) rfl ⟨rfl, rfl⟩ ⟨Nat.le_of_ble_eq_true rfl, Nat.le_of_ble_eq_true rfl⟩ rfl ⟨Nat.zero_le _, Nat.zero_le _⟩ rfl (Nat.le_of_ble_eq_true rfl) dX8_cutData_15 (fun H locs hw => ?_)
  refine r_aload0 C hl 0 rfl dX8_cutData_18 ?_
  refine r_get C hw _ (gx_h mO_o) 8 fl_X8_30 rfl dX8_cutData_19 ?_
  obtain ⟨u2, e2, hf⟩ := bx hf
  refine r_callVv (ws' := (mO G am as_ ar ac an ath ah m_am ++ (cO G ac u2 ++ (tO G an t_an ++ [])))) (As := []) (rest := []) C hw hl.1 kX1_choosePieces ml_X8_375 (c_X1_choosePieces l G ac _ u1 u2 e2) (CutX.skip (CutX.take cO_f CutX.none)) _ (gx_t (gx_h cO_o)) rfl ⟨rfl, rfl⟩ ⟨Nat.le_of_ble_eq_true rfl, Nat.le_of_ble_eq_true rfl⟩ rfl ⟨Nat.zero_le _, Nat.zero_le _⟩ rfl (Nat.le_of_ble_eq_true rfl) dX8_cutData_22 (fun H locs hw => ?_)
  exact fin_v C hw (Option.some.inj hf) (fun o => (mO G am as_ ar ac an ath ah m_am ++ (cO G ac o ++ (tO G an t_an ++ [])))) rfl dX8_cutData_25
set_option maxHeartbeats 4000000 in
set_option maxRecDepth 100000 in
theorem c_X8_rankOf (l : Launch) (G : GG) (am : Nat → Nat) (as_ : Nat → Nat) (ar : Nat → Nat) (ac : Nat → Nat) (an : Nat → Nat) (ath : Nat → Nat) (ah : Nat → Nat) (sz : Nat) (m_am : Pic) (s_as_ : Pic) (t_an : Pic) (x1 : Int32) (out : Int32) (hf : f_X8_rankOf m_am s_as_ t_an x1 = some out) : Met l yX8_rankOf (.code yX8_rankOf cX8_rankOf 5 (some .int) :: BT) ({ frames := 0, cells := 0, slots := 0, locals := 0 }) (va_Pc [.ref (am 99), .int x1] (PreW G sz (mO G am as_ ar ac an ath ah m_am ++ (sO G as_ s_as_ ++ (tO G an t_an ++ []))))) (Ans G out (va_A (mO G am as_ ar ac an ath ah m_am ++ (sO G as_ s_as_ ++ (tO G an t_an ++ []))) sz) (mO G am as_ ar ac an ath ah m_am ++ (sO G as_ s_as_ ++ (tO G an t_an ++ [])))) 0 0 (va_A (mO G am as_ ar ac an ath ah m_am ++ (sO G as_ s_as_ ++ (tO G an t_an ++ []))) sz) := by
  refine Met.into (by decide) (Nat.le_of_ble_eq_true rfl) ?_
  intro p e s m below meth c C hsz ls hl hw
  have hl : lv_has ls 5 [(0, .ref (am 99)), (1, .int x1)] := hl
  clear hsz
  generalize va_A (mO G am as_ ar ac an ath ah m_am ++ (sO G as_ s_as_ ++ (tO G an t_an ++ []))) sz = A at hw ⊢
  have hB_4 : ∀ (k4 : Int32 → Int32 → Option (Int32)) (hk4 : ∀ (v2 : Int32) (v3 : Int32), k4 v2 v3 = some out → ∀ (H : Heap) (locs : List Loc), Wd G A s H locs (mO G am as_ ar ac an ath ah m_am ++ (sO G as_ s_as_ ++ (tO G an t_an ++ []))) → ∀ ls : Array Slot, lv_has ls 5 [(0, .ref (am 99)), (1, .int x1), (2, .int v2), (3, .int v3)] → W p l e ({ frames := 0, cells := 0, slots := 0, locals := 0 }) s m [.ref (am 99), .int x1].toArray below meth c H locs 0 0 (MQ below (Ans G out A (mO G am as_ ar ac an ath ah m_am ++ (sO G as_ s_as_ ++ (tO G an t_an ++ [])))) [.ref (am 99), .int x1].toArray s 0 0 A) (F0 m 4 ls [])), ∀ (v2 : Int32) (v3 : Int32), b_X8_rankOf_4 m_am s_as_ t_an x1 k4 v2 v3 = some out → ∀ (H : Heap) (locs : List Loc), Wd G A s H locs (mO G am as_ ar ac an ath ah m_am ++ (sO G as_ s_as_ ++ (tO G an t_an ++ []))) → ∀ ls : Array Slot, lv_has ls 5 [(0, .ref (am 99)), (1, .int x1), (2, .int v2), (3, .int v3)] → W p l e ({ frames := 0, cells := 0, slots := 0, locals := 0 }) s m [.ref (am 99), .int x1].toArray below meth c H locs 0 0 (MQ below (Ans G out A (mO G am as_ ar ac an ath ah m_am ++ (sO G as_ s_as_ ++ (tO G an t_an ++ [])))) [.ref (am 99), .int x1].toArray s 0 0 A) (F0 m 4 ls []) := by
    intro k4 hk4 v2 v3 hf H locs hw ls hl
    unfold b_X8_rankOf_4 at hf
    refine r_iload0 C hl 3 rfl dX8_rankOf_4 ?_
    refine r_aload0 C hl 0 rfl dX8_rankOf_5 ?_
    refine r_get C hw _ (gx_h mO_o) 6 fl_X8_16 rfl dX8_rankOf_6 ?_
    refine r_get C hw _ (gx_t (gx_h sO_o)) 3 fl_X8_96 rfl dX8_rankOf_9 ?_
    refine lv_icmp_ge (tgt := 68) C.1 C.2.1 dX8_rankOf_12 (by decide) (fun hc => ?_) (fun hc => ?_)
    · replace hf := ifp hf hc
      refine r_iload0 C hl 2 rfl dX8_rankOf_68 ?_
      exact fin_i C hw (Option.some.inj hf) (fun o => o) (fun o => (mO G am as_ ar ac an ath ah m_am ++ (sO G as_ s_as_ ++ (tO G an t_an ++ [])))) rfl rfl dX8_rankOf_69
    · replace hf := ifn hf hc
      refine r_aload0 C hl 0 rfl dX8_rankOf_15 ?_
      refine r_get C hw _ (gx_h mO_o) 9 fl_X8_37 rfl dX8_rankOf_16 ?_
      refine r_get C hw _ (gx_t (gx_t (gx_h tO_o))) 1 fl_X8_151 rfl dX8_rankOf_19 ?_
      refine r_iload0 C hl 3 rfl dX8_rankOf_22 ?_
      obtain ⟨v1_, e1, hf⟩ := bx hf
      refine r_iald C hw _ (gx_t (gx_t (gx_h tO_g1))) e1 dX8_rankOf_23 ?_
      refine r_istore C hl [(4, .int v1_), (0, .ref (am 99)), (1, .int x1), (2, .int v2), (3, .int v3)] (by decide) rfl dX8_rankOf_24 (fun ls hl => ?_)
      refine r_iload C hl 0 rfl dX8_rankOf_26 ?_
      refine r_aload0 C hl 1 rfl dX8_rankOf_28 ?_
      refine r_get C hw _ (gx_h mO_o) 9 fl_X8_37 rfl dX8_rankOf_29 ?_
      refine r_get C hw _ (gx_t (gx_t (gx_h tO_o))) 1 fl_X8_151 rfl dX8_rankOf_32 ?_
      refine r_iload0 C hl 2 rfl dX8_rankOf_35 ?_
      obtain ⟨v2_, e2, hf⟩ := bx hf
      refine r_iald C hw _ (gx_t (gx_t (gx_h tO_g1))) e2 dX8_rankOf_36 ?_
      refine lv_icmp_lt (tgt := 59) C.1 C.2.1 dX8_rankOf_37 (by decide) (fun hc => ?_) (fun hc => ?_)
      · replace hf := ifp hf hc
        refine r_iinc C hl 3 (v2 + 1) [(2, .int (v2 + 1)), (4, .int v1_), (0, .ref (am 99)), (1, .int x1), (3, .int v3)] rfl (iinc_e (by decide)) (by decide) rfl dX8_rankOf_59 (fun ls hl => ?_)
        refine r_iinc C hl 4 (v3 + 1) [(3, .int (v3 + 1)), (2, .int (v2 + 1)), (4, .int v1_), (0, .ref (am 99)), (1, .int x1)] rfl (iinc_e (by decide)) (by decide) rfl dX8_rankOf_62 (fun ls hl => ?_)
        refine lv_goto (tgt := 4) C.1 C.2.1 dX8_rankOf_65 (by decide) ?_
        exact hk4 (v2 + 1) (v3 + 1) hf _ _ hw _ (lv_sub hl [3, 4, 1, 0] rfl)
      · replace hf := ifn hf hc
        refine r_iload C hl 0 rfl dX8_rankOf_40 ?_
        refine r_aload0 C hl 1 rfl dX8_rankOf_42 ?_
        refine r_get C hw _ (gx_h mO_o) 9 fl_X8_37 rfl dX8_rankOf_43 ?_
        refine r_get C hw _ (gx_t (gx_t (gx_h tO_o))) 1 fl_X8_151 rfl dX8_rankOf_46 ?_
        refine r_iload0 C hl 2 rfl dX8_rankOf_49 ?_
        obtain ⟨v3_, e3, hf⟩ := bx hf
        refine r_iald C hw _ (gx_t (gx_t (gx_h tO_g1))) e3 dX8_rankOf_50 ?_
        refine lv_icmp_ne (tgt := 62) C.1 C.2.1 dX8_rankOf_51 (by decide) (fun hc => ?_) (fun hc => ?_)
        · replace hf := ifn hf hc
          refine r_iinc C hl 4 (v3 + 1) [(3, .int (v3 + 1)), (4, .int v1_), (0, .ref (am 99)), (1, .int x1), (2, .int v2)] rfl (iinc_e (by decide)) (by decide) rfl dX8_rankOf_62 (fun ls hl => ?_)
          refine lv_goto (tgt := 4) C.1 C.2.1 dX8_rankOf_65 (by decide) ?_
          exact hk4 v2 (v3 + 1) hf _ _ hw _ (lv_sub hl [2, 3, 4, 0] rfl)
        · replace hf := ifp hf hc
          refine r_iload0 C hl 4 rfl dX8_rankOf_54 ?_
          refine r_iload0 C hl 2 rfl dX8_rankOf_55 ?_
          refine lv_icmp_ge (tgt := 62) C.1 C.2.1 dX8_rankOf_56 (by decide) (fun hc => ?_) (fun hc => ?_)
          · replace hf := ifp hf hc
            refine r_iinc C hl 4 (v3 + 1) [(3, .int (v3 + 1)), (4, .int v1_), (0, .ref (am 99)), (1, .int x1), (2, .int v2)] rfl (iinc_e (by decide)) (by decide) rfl dX8_rankOf_62 (fun ls hl => ?_)
            refine lv_goto (tgt := 4) C.1 C.2.1 dX8_rankOf_65 (by decide) ?_
            exact hk4 v2 (v3 + 1) hf _ _ hw _ (lv_sub hl [2, 3, 4, 0] rfl)
          · replace hf := ifn hf hc
            refine r_iinc C hl 3 (v2 + 1) [(2, .int (v2 + 1)), (4, .int v1_), (0, .ref (am 99)), (1, .int x1), (3, .int v3)] rfl (iinc_e (by decide)) (by decide) rfl dX8_rankOf_59 (fun ls hl => ?_)
            refine r_iinc C hl 4 (v3 + 1) [(3, .int (v3 + 1)), (2, .int (v2 + 1)), (4, .int v1_), (0, .ref (am 99)), (1, .int x1)] rfl (iinc_e (by decide)) (by decide) rfl dX8_rankOf_62 (fun ls hl => ?_)
            refine lv_goto (tgt := 4) C.1 C.2.1 dX8_rankOf_65 (by decide) ?_
            exact hk4 (v2 + 1) (v3 + 1) hf _ _ hw _ (lv_sub hl [3, 4, 1, 0] rfl)
  have hL_4 : ∀ n : Nat, ∀ (v2 : Int32) (v3 : Int32), L_X8_rankOf_4 m_am s_as_ t_an x1  n v2 v3 = some out → ∀ (H : Heap) (locs : List Loc), Wd G A s H locs (mO G am as_ ar ac an ath ah m_am ++ (sO G as_ s_as_ ++ (tO G an t_an ++ []))) → ∀ ls : Array Slot, lv_has ls 5 [(0, .ref (am 99)), (1, .int x1), (2, .int v2), (3, .int v3)] → W p l e ({ frames := 0, cells := 0, slots := 0, locals := 0 }) s m [.ref (am 99), .int x1].toArray below meth c H locs 0 0 (MQ below (Ans G out A (mO G am as_ ar ac an ath ah m_am ++ (sO G as_ s_as_ ++ (tO G an t_an ++ [])))) [.ref (am 99), .int x1].toArray s 0 0 A) (F0 m 4 ls []) := by
    intro  n
    induction n with
    | zero => intro v2 v3 hf; cases hf
    | succ n ih => exact hB_4 _ ih
  unfold f_X8_rankOf at hf
  refine lv_iconst (v := 0) C.1 C.2.1 dX8_rankOf_0 (by decide) ?_
  refine r_istore0 C hl [(2, .int 0), (0, .ref (am 99)), (1, .int x1)] (by decide) rfl dX8_rankOf_1 (fun ls hl => ?_)
  refine lv_iconst (v := 0) C.1 C.2.1 dX8_rankOf_2 (by decide) ?_
  refine r_istore0 C hl [(3, .int 0), (2, .int 0), (0, .ref (am 99)), (1, .int x1)] (by decide) rfl dX8_rankOf_3 (fun ls hl => ?_)
  exact hL_4  FU 0 0 hf _ _ hw _ (lv_sub hl [2, 3, 1, 0] rfl)
set_option maxHeartbeats 4000000 in
set_option maxRecDepth 100000 in
theorem c_X8_thinkOfPool (l : Launch) (G : GG) (am : Nat → Nat) (as_ : Nat → Nat) (ar : Nat → Nat) (ac : Nat → Nat) (an : Nat → Nat) (ath : Nat → Nat) (ah : Nat → Nat) (sz : Nat) (m_am : Pic) (t_an : Pic) (p_an : Pic) (p_ath : Pic) (z_an : Pic) (z_ath : Pic) (x1 : Int32) (out : Pic × Pic) (hf : f_X8_thinkOfPool m_am t_an p_an p_ath z_an z_ath x1 = some out) : Met l yX8_thinkOfPool (.code yX8_thinkOfPool cX8_thinkOfPool 2 none :: BT) ({ frames := 5, cells := 0, slots := 0, locals := 113 }) (va_Pc [.ref (am 99), .int x1] (PreW G sz (mO G am as_ ar ac an ath ah m_am ++ (tO G an t_an ++ (pO G an p_an ++ (pO G ath p_ath ++ (zO G an z_an ++ (zO G ath z_ath ++ [])))))))) (Don G (va_A (mO G am as_ ar ac an ath ah m_am ++ (tO G an t_an ++ (pO G an p_an ++ (pO G ath p_ath ++ (zO G an z_an ++ (zO G ath z_ath ++ [])))))) sz) (mO G am as_ ar ac an ath ah m_am ++ (tO G an t_an ++ (pO G an p_an ++ (pO G ath out.1 ++ (zO G an z_an ++ (zO G ath out.2 ++ []))))))) 0 0 (va_A (mO G am as_ ar ac an ath ah m_am ++ (tO G an t_an ++ (pO G an p_an ++ (pO G ath p_ath ++ (zO G an z_an ++ (zO G ath z_ath ++ [])))))) sz) := by
  refine Met.into (by decide) (Nat.le_of_ble_eq_true rfl) ?_
  intro p e s m below meth c C hsz ls hl hw
  have hl : lv_has ls 2 [(0, .ref (am 99)), (1, .int x1)] := hl
  clear hsz
  generalize va_A (mO G am as_ ar ac an ath ah m_am ++ (tO G an t_an ++ (pO G an p_an ++ (pO G ath p_ath ++ (zO G an z_an ++ (zO G ath z_ath ++ [])))))) sz = A at hw ⊢
  unfold f_X8_thinkOfPool at hf
  refine r_aload0 C hl 0 rfl dX8_thinkOfPool_0 ?_
  refine r_get C hw _ (gx_h mO_o) 10 fl_X8_44 rfl dX8_thinkOfPool_1 ?_
  refine r_aload0 C hl 0 rfl dX8_thinkOfPool_4 ?_
  refine r_get C hw _ (gx_h mO_o) 9 fl_X8_37 rfl dX8_thinkOfPool_5 ?_
  refine r_get C hw _ (gx_t (gx_h tO_o)) 2 fl_X8_105 rfl dX8_thinkOfPool_8 ?_
  obtain ⟨u1, e1, hf⟩ := bx hf
  refine r_callVv (ws' := (mO G am as_ ar ac an ath ah m_am ++ (tO G an t_an ++ (pO G an p_an ++ (pO G ath u1.1 ++ (zO G an z_an ++ (zO G ath u1.2 ++ []))))))) (As := [.ref (an 99)]) (rest := []) C hw hl.1 kX3_copyFrom ml_X8_215 (c_X3_copyFrom l G ath an _ p_ath p_an z_ath z_an u1 e1) (CutX.mk (isC := [15, 16, 17, 18, 19, 20, 21, 22, 23, 24, 5, 6, 7, 8, 9, 10, 11, 12, 13, 14, 31, 32, 33, 34, 35, 36, 25, 26, 27, 28, 29, 30]) (isR := [0, 1, 2, 3, 4]) 37 (by decide) rfl rfl rfl rfl (by decide) rfl) _ (gx_t (gx_t (gx_t (gx_h pO_o)))) rfl ⟨rfl, rfl⟩ ⟨Nat.le_of_ble_eq_true rfl, Nat.le_of_ble_eq_true rfl⟩ rfl ⟨Nat.zero_le _, Nat.zero_le _⟩ rfl (Nat.le_of_ble_eq_true rfl) dX8_thinkOfPool_11 (fun H locs hw => ?_)
  refine r_iload0 C hl 1 rfl dX8_thinkOfPool_14 ?_
  refine lv_if_eq (tgt := 26) C.1 C.2.1 dX8_thinkOfPool_15 (by decide) (fun hc => ?_) (fun hc => ?_)
  · replace hf := ifp hf hc
    exact fin_v C hw (Option.some.inj hf) (fun o => (mO G am as_ ar ac an ath ah m_am ++ (tO G an t_an ++ (pO G an p_an ++ (pO G ath o.1 ++ (zO G an z_an ++ (zO G ath o.2 ++ []))))))) rfl dX8_thinkOfPool_26
  · replace hf := ifn hf hc
    refine r_aload0 C hl 0 rfl dX8_thinkOfPool_18 ?_
    refine r_get C hw _ (gx_h mO_o) 10 fl_X8_44 rfl dX8_thinkOfPool_19 ?_
    obtain ⟨u2, e2, hf⟩ := bx hf
    refine r_callVi (ws' := (mO G am as_ ar ac an ath ah m_am ++ (tO G an t_an ++ (pO G an p_an ++ (pO G ath u2.2.1 ++ (zO G an z_an ++ (zO G ath u2.2.2 ++ []))))))) (As := []) (rest := []) C hw hl.1 kX3_compactAll ml_X8_219 (c_X3_compactAll l G ath _ u1.1 u1.2 u2 e2) (CutX.skip (CutX.skip (CutX.skip (CutX.take pO_f (CutX.skip (CutX.take zO_f CutX.none)))))) _ (gx_t (gx_t (gx_t (gx_h pO_o)))) rfl ⟨rfl, rfl⟩ ⟨Nat.le_of_ble_eq_true rfl, Nat.le_of_ble_eq_true rfl⟩ rfl ⟨Nat.zero_le _, Nat.zero_le _⟩ rfl (Nat.le_of_ble_eq_true rfl) dX8_thinkOfPool_22 (fun H locs hw => ?_)
    refine lv_pop C.1 C.2.1 dX8_thinkOfPool_25 rfl ?_
    exact fin_v C hw (Option.some.inj hf) (fun o => (mO G am as_ ar ac an ath ah m_am ++ (tO G an t_an ++ (pO G an p_an ++ (pO G ath o.1 ++ (zO G an z_an ++ (zO G ath o.2 ++ []))))))) rfl dX8_thinkOfPool_26
set_option maxHeartbeats 4000000 in
set_option maxRecDepth 100000 in
theorem c_X8_thinkOfStoring (l : Launch) (G : GG) (am : Nat → Nat) (as_ : Nat → Nat) (ar : Nat → Nat) (ac : Nat → Nat) (an : Nat → Nat) (ath : Nat → Nat) (ah : Nat → Nat) (sz : Nat) (m_am : Pic) (t_an : Pic) (p_an : Pic) (p_ath : Pic) (z_an : Pic) (z_ath : Pic) (x1 x2 : Int32) (out : Pic × Pic) (hf : f_X8_thinkOfStoring m_am t_an p_an p_ath z_an z_ath x1 x2 = some out) : Met l yX8_thinkOfStoring (.code yX8_thinkOfStoring cX8_thinkOfStoring 3 none :: BT) ({ frames := 5, cells := 0, slots := 0, locals := 117 }) (va_Pc [.ref (am 99), .int x1, .int x2] (PreW G sz (mO G am as_ ar ac an ath ah m_am ++ (tO G an t_an ++ (pO G an p_an ++ (pO G ath p_ath ++ (zO G an z_an ++ (zO G ath z_ath ++ [])))))))) (Don G (va_A (mO G am as_ ar ac an ath ah m_am ++ (tO G an t_an ++ (pO G an p_an ++ (pO G ath p_ath ++ (zO G an z_an ++ (zO G ath z_ath ++ [])))))) sz) (mO G am as_ ar ac an ath ah m_am ++ (tO G an t_an ++ (pO G an p_an ++ (pO G ath out.1 ++ (zO G an z_an ++ (zO G ath out.2 ++ []))))))) 0 0 (va_A (mO G am as_ ar ac an ath ah m_am ++ (tO G an t_an ++ (pO G an p_an ++ (pO G ath p_ath ++ (zO G an z_an ++ (zO G ath z_ath ++ [])))))) sz) := by
  refine Met.into (by decide) (Nat.le_of_ble_eq_true rfl) ?_
  intro p e s m below meth c C hsz ls hl hw
  have hl : lv_has ls 3 [(0, .ref (am 99)), (1, .int x1), (2, .int x2)] := hl
  clear hsz
  generalize va_A (mO G am as_ ar ac an ath ah m_am ++ (tO G an t_an ++ (pO G an p_an ++ (pO G ath p_ath ++ (zO G an z_an ++ (zO G ath z_ath ++ [])))))) sz = A at hw ⊢
  unfold f_X8_thinkOfStoring at hf
  refine r_aload0 C hl 0 rfl dX8_thinkOfStoring_0 ?_
  refine r_get C hw _ (gx_h mO_o) 10 fl_X8_44 rfl dX8_thinkOfStoring_1 ?_
  refine r_aload0 C hl 0 rfl dX8_thinkOfStoring_4 ?_
  refine r_get C hw _ (gx_h mO_o) 9 fl_X8_37 rfl dX8_thinkOfStoring_5 ?_
  refine r_get C hw _ (gx_t (gx_h tO_o)) 2 fl_X8_105 rfl dX8_thinkOfStoring_8 ?_
  obtain ⟨u1, e1, hf⟩ := bx hf
  refine r_callVv (ws' := (mO G am as_ ar ac an ath ah m_am ++ (tO G an t_an ++ (pO G an p_an ++ (pO G ath u1.1 ++ (zO G an z_an ++ (zO G ath u1.2 ++ []))))))) (As := [.ref (an 99)]) (rest := []) C hw hl.1 kX3_copyFrom ml_X8_215 (c_X3_copyFrom l G ath an _ p_ath p_an z_ath z_an u1 e1) (CutX.mk (isC := [15, 16, 17, 18, 19, 20, 21, 22, 23, 24, 5, 6, 7, 8, 9, 10, 11, 12, 13, 14, 31, 32, 33, 34, 35, 36, 25, 26, 27, 28, 29, 30]) (isR := [0, 1, 2, 3, 4]) 37 (by decide) rfl rfl rfl rfl (by decide) rfl) _ (gx_t (gx_t (gx_t (gx_h pO_o)))) rfl ⟨rfl, rfl⟩ ⟨Nat.le_of_ble_eq_true rfl, Nat.le_of_ble_eq_true rfl⟩ rfl ⟨Nat.zero_le _, Nat.zero_le _⟩ rfl (Nat.le_of_ble_eq_true rfl) dX8_thinkOfStoring_11 (fun H locs hw => ?_)
  refine r_aload0 C hl 0 rfl dX8_thinkOfStoring_14 ?_
  refine r_get C hw _ (gx_h mO_o) 10 fl_X8_44 rfl dX8_thinkOfStoring_15 ?_
  refine r_iload0 C hl 1 rfl dX8_thinkOfStoring_18 ?_
  refine r_aload0 C hl 0 rfl dX8_thinkOfStoring_19 ?_
  refine r_get C hw _ (gx_h mO_o) 9 fl_X8_37 rfl dX8_thinkOfStoring_20 ?_
  refine r_get C hw _ (gx_t (gx_h tO_o)) 0 fl_X8_148 rfl dX8_thinkOfStoring_23 ?_
  refine r_iload0 C hl 2 rfl dX8_thinkOfStoring_26 ?_
  refine lv_bipush (v := 16) C.1 C.2.1 dX8_thinkOfStoring_27 (by decide) ?_
  refine lv_imul C.1 C.2.1 dX8_thinkOfStoring_29 ?_
  refine r_aload0 C hl 0 rfl dX8_thinkOfStoring_30 ?_
  refine r_get C hw _ (gx_h mO_o) 9 fl_X8_37 rfl dX8_thinkOfStoring_31 ?_
  refine r_get C hw _ (gx_t (gx_h tO_o)) 1 fl_X8_151 rfl dX8_thinkOfStoring_34 ?_
  refine r_iload0 C hl 2 rfl dX8_thinkOfStoring_37 ?_
  obtain ⟨v2_, e2, hf⟩ := bx hf
  refine r_iald C hw _ (gx_t (gx_h tO_g1)) e2 dX8_thinkOfStoring_38 ?_
  obtain ⟨u3, e3, hf⟩ := bx hf
  refine r_callVv (ws' := (mO G am as_ ar ac an ath ah m_am ++ (tO G an t_an ++ (pO G an p_an ++ (pO G ath u3.1 ++ (zO G an z_an ++ (zO G ath u3.2 ++ []))))))) (As := [.int x1, .ref (an 200), .int (x2 * 16), .int v2_]) (rest := []) C hw hl.1 kX3_storePage ml_X8_328 (c_X3_storePage l G ath an _ u1.1 u1.2 t_an x1 (x2 * 16) v2_ u3 e3) (CutX.mk (isC := [15, 16, 17, 18, 19, 20, 21, 22, 23, 24, 31, 32, 33, 34, 35, 36, 3]) (isR := [0, 1, 2, 4, 5, 6, 7, 8, 9, 10, 11, 12, 13, 14, 25, 26, 27, 28, 29, 30]) 37 (by decide) rfl rfl rfl rfl (by decide) rfl) _ (gx_t (gx_t (gx_t (gx_h pO_o)))) rfl ⟨rfl, rfl⟩ ⟨Nat.le_of_ble_eq_true rfl, Nat.le_of_ble_eq_true rfl⟩ rfl ⟨Nat.zero_le _, Nat.zero_le _⟩ rfl (Nat.le_of_ble_eq_true rfl) dX8_thinkOfStoring_39 (fun H locs hw => ?_)
  exact fin_v C hw (Option.some.inj hf) (fun o => (mO G am as_ ar ac an ath ah m_am ++ (tO G an t_an ++ (pO G an p_an ++ (pO G ath o.1 ++ (zO G an z_an ++ (zO G ath o.2 ++ []))))))) rfl dX8_thinkOfStoring_42
set_option maxHeartbeats 4000000 in
set_option maxRecDepth 100000 in
theorem c_X8_perform (l : Launch) (G : GG) (am : Nat → Nat) (as_ : Nat → Nat) (ar : Nat → Nat) (ac : Nat → Nat) (an : Nat → Nat) (ath : Nat → Nat) (ah : Nat → Nat) (ap : Nat → Nat) (sz : Nat) (m_am : Pic) (s_as_ : Pic) (t_an : Pic) (p_ap : Pic) (z_ap : Pic) (x2 : Int32) (out : Pic × Pic) (hf : f_X8_perform m_am s_as_ t_an p_ap z_ap x2 = some out) : Met l yX8_perform (.code yX8_perform cX8_perform 5 none :: BT) ({ frames := 5, cells := 0, slots := 0, locals := 117 }) (va_Pc [.ref (am 99), .ref (ap 99), .int x2] (PreW G sz (mO G am as_ ar ac an ath ah m_am ++ (sO G as_ s_as_ ++ (tO G an t_an ++ (pO G ap p_ap ++ (zO G ap z_ap ++ []))))))) (Don G (va_A (mO G am as_ ar ac an ath ah m_am ++ (sO G as_ s_as_ ++ (tO G an t_an ++ (pO G ap p_ap ++ (zO G ap z_ap ++ []))))) sz) (mO G am as_ ar ac an ath ah m_am ++ (sO G as_ s_as_ ++ (tO G an t_an ++ (pO G ap out.1 ++ (zO G ap out.2 ++ [])))))) 0 0 (va_A (mO G am as_ ar ac an ath ah m_am ++ (sO G as_ s_as_ ++ (tO G an t_an ++ (pO G ap p_ap ++ (zO G ap z_ap ++ []))))) sz) := by
  refine Met.into (by decide) (Nat.le_of_ble_eq_true rfl) ?_
  intro p e s m below meth c C hsz ls hl hw
  have hl : lv_has ls 5 [(0, .ref (am 99)), (1, .ref (ap 99)), (2, .int x2)] := hl
  clear hsz
  generalize va_A (mO G am as_ ar ac an ath ah m_am ++ (sO G as_ s_as_ ++ (tO G an t_an ++ (pO G ap p_ap ++ (zO G ap z_ap ++ []))))) sz = A at hw ⊢
  unfold f_X8_perform at hf
  refine r_aload0 C hl 0 rfl dX8_perform_0 ?_
  refine r_get C hw _ (gx_h mO_o) 6 fl_X8_16 rfl dX8_perform_1 ?_
  refine r_get C hw _ (gx_t (gx_h sO_o)) 7 fl_X8_318 rfl dX8_perform_4 ?_
  refine r_iload0 C hl 2 rfl dX8_perform_7 ?_
  obtain ⟨v1_, e1, hf⟩ := bx hf
  refine r_iald C hw _ (gx_t (gx_h sO_g7)) e1 dX8_perform_8 ?_
  refine r_istore0 C hl [(3, .int v1_), (0, .ref (am 99)), (1, .ref (ap 99)), (2, .int x2)] (by decide) rfl dX8_perform_9 (fun ls hl => ?_)
  refine r_aload0 C hl 1 rfl dX8_perform_10 ?_
  refine r_get C hw _ (gx_h mO_o) 6 fl_X8_16 rfl dX8_perform_11 ?_
  refine r_get C hw _ (gx_t (gx_h sO_o)) 8 fl_X8_321 rfl dX8_perform_14 ?_
  refine r_iload0 C hl 3 rfl dX8_perform_17 ?_
  obtain ⟨v2_, e2, hf⟩ := bx hf
  refine r_iald C hw _ (gx_t (gx_h sO_g8)) e2 dX8_perform_18 ?_
  refine r_istore C hl [(4, .int v2_), (3, .int v1_), (0, .ref (am 99)), (1, .ref (ap 99)), (2, .int x2)] (by decide) rfl dX8_perform_19 (fun ls hl => ?_)
  refine r_aload0 C hl 2 rfl dX8_perform_21 ?_
  refine r_get C hw _ (gx_h mO_o) 6 fl_X8_16 rfl dX8_perform_22 ?_
  refine r_get C hw _ (gx_t (gx_h sO_o)) 6 fl_X8_315 rfl dX8_perform_25 ?_
  refine r_iload0 C hl 4 rfl dX8_perform_28 ?_
  obtain ⟨v3_, e3, hf⟩ := bx hf
  refine r_iald C hw _ (gx_t (gx_h sO_g6)) e3 dX8_perform_29 ?_
  refine lv_iconst (v := 1) C.1 C.2.1 dX8_perform_30 (by decide) ?_
  refine lv_icmp_ne (tgt := 42) C.1 C.2.1 dX8_perform_31 (by decide) (fun hc => ?_) (fun hc => ?_)
  · replace hf := ifn hf hc
    refine r_aload0 C hl 2 rfl dX8_perform_42 ?_
    refine r_get C hw _ (gx_h mO_o) 6 fl_X8_16 rfl dX8_perform_43 ?_
    refine r_get C hw _ (gx_t (gx_h sO_o)) 6 fl_X8_315 rfl dX8_perform_46 ?_
    refine r_iload0 C hl 4 rfl dX8_perform_49 ?_
    obtain ⟨v4_, e4, hf⟩ := bx hf
    refine r_iald C hw _ (gx_t (gx_h sO_g6)) e4 dX8_perform_50 ?_
    refine lv_iconst (v := 2) C.1 C.2.1 dX8_perform_51 (by decide) ?_
    refine lv_icmp_ne (tgt := 63) C.1 C.2.1 dX8_perform_52 (by decide) (fun hc => ?_) (fun hc => ?_)
    · replace hf := ifn hf hc
      refine r_aload0 C hl 2 rfl dX8_perform_63 ?_
      refine r_iload C hl 0 rfl dX8_perform_64 ?_
      obtain ⟨u5, e5, hf⟩ := bx hf
      refine r_callVi (ws' := (mO G am as_ ar ac an ath ah m_am ++ (sO G as_ s_as_ ++ (tO G an t_an ++ (pO G ap p_ap ++ (zO G ap z_ap ++ [])))))) (As := [.int v2_]) (rest := []) C hw hl.1 kX8_noData ml_X8_141 (c_X8_noData l G am as_ ar ac an ath ah _ m_am s_as_ v2_ u5 e5) (CutX.take mO_f (CutX.take sO_f CutX.none)) _ (gx_h mO_o) rfl ⟨rfl, rfl⟩ ⟨Nat.le_of_ble_eq_true rfl, Nat.le_of_ble_eq_true rfl⟩ rfl ⟨Nat.zero_le _, Nat.zero_le _⟩ rfl (Nat.le_of_ble_eq_true rfl) dX8_perform_66 (fun H locs hw => ?_)
      refine lv_if_ne (tgt := 99) C.1 C.2.1 dX8_perform_69 (by decide) (fun hc => ?_) (fun hc => ?_)
      · replace hf := ifn hf hc
        exact fin_v C hw (Option.some.inj hf) (fun o => (mO G am as_ ar ac an ath ah m_am ++ (sO G as_ s_as_ ++ (tO G an t_an ++ (pO G ap o.1 ++ (zO G ap o.2 ++ [])))))) rfl dX8_perform_99
      · replace hf := ifp hf hc
        refine r_aload0 C hl 3 rfl dX8_perform_72 ?_
        refine r_iload0 C hl 1 rfl dX8_perform_73 ?_
        refine r_aload0 C hl 2 rfl dX8_perform_74 ?_
        refine r_get C hw _ (gx_h mO_o) 9 fl_X8_37 rfl dX8_perform_75 ?_
        refine r_get C hw _ (gx_t (gx_t (gx_h tO_o))) 0 fl_X8_148 rfl dX8_perform_78 ?_
        refine r_iload C hl 0 rfl dX8_perform_81 ?_
        refine lv_bipush (v := 16) C.1 C.2.1 dX8_perform_83 (by decide) ?_
        refine lv_imul C.1 C.2.1 dX8_perform_85 ?_
        refine r_aload0 C hl 2 rfl dX8_perform_86 ?_
        refine r_get C hw _ (gx_h mO_o) 9 fl_X8_37 rfl dX8_perform_87 ?_
        refine r_get C hw _ (gx_t (gx_t (gx_h tO_o))) 1 fl_X8_151 rfl dX8_perform_90 ?_
        refine r_iload C hl 0 rfl dX8_perform_93 ?_
        obtain ⟨v6_, e6, hf⟩ := bx hf
        refine r_iald C hw _ (gx_t (gx_t (gx_h tO_g1))) e6 dX8_perform_95 ?_
        obtain ⟨u7, e7, hf⟩ := bx hf
        refine r_callVv (ws' := (mO G am as_ ar ac an ath ah m_am ++ (sO G as_ s_as_ ++ (tO G an t_an ++ (pO G ap u7.1 ++ (zO G ap u7.2 ++ [])))))) (As := [.int v1_, .ref (an 200), .int (v2_ * 16), .int v6_]) (rest := []) C hw hl.1 kX3_storePage ml_X8_328 (c_X3_storePage l G ap an _ p_ap z_ap t_an v1_ (v2_ * 16) v6_ u7 e7) (CutX.mk (isC := [10, 11, 12, 13, 14, 15, 16, 17, 18, 19, 20, 21, 22, 23, 24, 25, 8]) (isR := [0, 1, 2, 3, 4, 5, 6, 7, 9]) 26 (by decide) rfl rfl rfl rfl (by decide) rfl) _ (gx_t (gx_t (gx_t (gx_h pO_o)))) rfl ⟨rfl, rfl⟩ ⟨Nat.le_of_ble_eq_true rfl, Nat.le_of_ble_eq_true rfl⟩ rfl ⟨Nat.zero_le _, Nat.zero_le _⟩ rfl (Nat.le_of_ble_eq_true rfl) dX8_perform_96 (fun H locs hw => ?_)
        exact fin_v C hw (Option.some.inj hf) (fun o => (mO G am as_ ar ac an ath ah m_am ++ (sO G as_ s_as_ ++ (tO G an t_an ++ (pO G ap o.1 ++ (zO G ap o.2 ++ [])))))) rfl dX8_perform_99
    · replace hf := ifp hf hc
      refine r_aload0 C hl 3 rfl dX8_perform_55 ?_
      refine r_iload0 C hl 1 rfl dX8_perform_56 ?_
      obtain ⟨u8, e8, hf⟩ := bx hf
      refine r_callVv (ws' := (mO G am as_ ar ac an ath ah m_am ++ (sO G as_ s_as_ ++ (tO G an t_an ++ (pO G ap u8.1 ++ (zO G ap u8.2 ++ [])))))) (As := [.int v1_]) (rest := []) C hw hl.1 kX3_dropPage ml_X8_335 (c_X3_dropPage l G ap _ p_ap z_ap v1_ u8 e8) (CutX.skip (CutX.skip (CutX.skip (CutX.take pO_f (CutX.take zO_f CutX.none))))) _ (gx_t (gx_t (gx_t (gx_h pO_o)))) rfl ⟨rfl, rfl⟩ ⟨Nat.le_of_ble_eq_true rfl, Nat.le_of_ble_eq_true rfl⟩ rfl ⟨Nat.zero_le _, Nat.zero_le _⟩ rfl (Nat.le_of_ble_eq_true rfl) dX8_perform_57 (fun H locs hw => ?_)
      refine lv_goto (tgt := 99) C.1 C.2.1 dX8_perform_60 (by decide) ?_
      exact fin_v C hw (Option.some.inj hf) (fun o => (mO G am as_ ar ac an ath ah m_am ++ (sO G as_ s_as_ ++ (tO G an t_an ++ (pO G ap o.1 ++ (zO G ap o.2 ++ [])))))) rfl dX8_perform_99
  · replace hf := ifp hf hc
    refine r_aload0 C hl 3 rfl dX8_perform_34 ?_
    refine r_iload0 C hl 1 rfl dX8_perform_35 ?_
    obtain ⟨u9, e9, hf⟩ := bx hf
    refine r_callVv (ws' := (mO G am as_ ar ac an ath ah m_am ++ (sO G as_ s_as_ ++ (tO G an t_an ++ (pO G ap u9 ++ (zO G ap z_ap ++ [])))))) (As := [.int v1_]) (rest := []) C hw hl.1 kX3_loadPage ml_X8_332 (c_X3_loadPage l G ap _ p_ap v1_ u9 e9) (CutX.skip (CutX.skip (CutX.skip (CutX.take pO_f CutX.none)))) _ (gx_t (gx_t (gx_t (gx_h pO_o)))) rfl ⟨rfl, rfl⟩ ⟨Nat.le_of_ble_eq_true rfl, Nat.le_of_ble_eq_true rfl⟩ rfl ⟨Nat.zero_le _, Nat.zero_le _⟩ rfl (Nat.le_of_ble_eq_true rfl) dX8_perform_36 (fun H locs hw => ?_)
    refine lv_goto (tgt := 99) C.1 C.2.1 dX8_perform_39 (by decide) ?_
    exact fin_v C hw (Option.some.inj hf) (fun o => (mO G am as_ ar ac an ath ah m_am ++ (sO G as_ s_as_ ++ (tO G an t_an ++ (pO G ap o.1 ++ (zO G ap o.2 ++ [])))))) rfl dX8_perform_99
set_option maxHeartbeats 4000000 in
set_option maxRecDepth 100000 in
theorem c_X8_feed (l : Launch) (G : GG) (am : Nat → Nat) (as_ : Nat → Nat) (ar : Nat → Nat) (ac : Nat → Nat) (an : Nat → Nat) (ath : Nat → Nat) (ah : Nat → Nat) (sz : Nat) (m_am : Pic) (x1 x2 x3 x4 x5 : Int32) (out : Int32 × Pic) (hf : f_X8_feed m_am x1 x2 x3 x4 x5 = some out) : Met l yX8_feed (.code yX8_feed cX8_feed 6 (some .int) :: BT) ({ frames := 1, cells := 0, slots := 0, locals := 22 }) (va_Pc [.ref (am 99), .int x1, .int x2, .int x3, .int x4, .int x5] (PreW G sz (mO G am as_ ar ac an ath ah m_am ++ []))) (Ans G out.1 (va_A (mO G am as_ ar ac an ath ah m_am ++ []) sz) (mO G am as_ ar ac an ath ah out.2 ++ [])) 0 0 (va_A (mO G am as_ ar ac an ath ah m_am ++ []) sz) := by
  refine Met.into (by decide) (Nat.le_of_ble_eq_true rfl) ?_
  intro p e s m below meth c C hsz ls hl hw
  have hl : lv_has ls 6 [(0, .ref (am 99)), (1, .int x1), (2, .int x2), (3, .int x3), (4, .int x4), (5, .int x5)] := hl
  clear hsz
  generalize va_A (mO G am as_ ar ac an ath ah m_am ++ []) sz = A at hw ⊢
  unfold f_X8_feed at hf
  refine r_aload0 C hl 0 rfl dX8_feed_0 ?_
  refine r_get C hw _ (gx_h mO_o) 1 fl_X8_55 rfl dX8_feed_1 ?_
  refine lv_bipush (v := 20) C.1 C.2.1 dX8_feed_4 (by decide) ?_
  refine lv_iadd C.1 C.2.1 dX8_feed_6 ?_
  refine lv_sipush (v := 900) C.1 C.2.1 dX8_feed_7 (by decide) ?_
  refine lv_icmp_le (tgt := 15) C.1 C.2.1 dX8_feed_10 (by decide) (fun hc => ?_) (fun hc => ?_)
  · replace hf := ifp hf hc
    refine r_aload0 C hl 0 rfl dX8_feed_15 ?_
    refine r_iload0 C hl 1 rfl dX8_feed_16 ?_
    obtain ⟨u1, e1, hf⟩ := bx hf
    refine r_callVv (ws' := (mO G am as_ ar ac an ath ah u1 ++ [])) (As := [.int x1]) (rest := []) C hw hl.1 kX8_feedNumber ml_X8_59 (c_X8_feedNumber l G am as_ ar ac an ath ah _ m_am x1 u1 e1) (CutX.take mO_f CutX.none) _ (gx_h mO_o) rfl ⟨rfl, rfl⟩ ⟨Nat.le_of_ble_eq_true rfl, Nat.le_of_ble_eq_true rfl⟩ rfl ⟨Nat.zero_le _, Nat.zero_le _⟩ rfl (Nat.le_of_ble_eq_true rfl) dX8_feed_17 (fun H locs hw => ?_)
    refine r_aload0 C hl 0 rfl dX8_feed_20 ?_
    refine r_iload0 C hl 2 rfl dX8_feed_21 ?_
    obtain ⟨u2, e2, hf⟩ := bx hf
    refine r_callVv (ws' := (mO G am as_ ar ac an ath ah u2 ++ [])) (As := [.int x2]) (rest := []) C hw hl.1 kX8_feedNumber ml_X8_59 (c_X8_feedNumber l G am as_ ar ac an ath ah _ u1 x2 u2 e2) (CutX.take mO_f CutX.none) _ (gx_h mO_o) rfl ⟨rfl, rfl⟩ ⟨Nat.le_of_ble_eq_true rfl, Nat.le_of_ble_eq_true rfl⟩ rfl ⟨Nat.zero_le _, Nat.zero_le _⟩ rfl (Nat.le_of_ble_eq_true rfl) dX8_feed_22 (fun H locs hw => ?_)
    refine r_aload0 C hl 0 rfl dX8_feed_25 ?_
    refine r_iload0 C hl 3 rfl dX8_feed_26 ?_
    obtain ⟨u3, e3, hf⟩ := bx hf
    refine r_callVv (ws' := (mO G am as_ ar ac an ath ah u3 ++ [])) (As := [.int x3]) (rest := []) C hw hl.1 kX8_feedNumber ml_X8_59 (c_X8_feedNumber l G am as_ ar ac an ath ah _ u2 x3 u3 e3) (CutX.take mO_f CutX.none) _ (gx_h mO_o) rfl ⟨rfl, rfl⟩ ⟨Nat.le_of_ble_eq_true rfl, Nat.le_of_ble_eq_true rfl⟩ rfl ⟨Nat.zero_le _, Nat.zero_le _⟩ rfl (Nat.le_of_ble_eq_true rfl) dX8_feed_27 (fun H locs hw => ?_)
    refine r_aload0 C hl 0 rfl dX8_feed_30 ?_
    refine r_iload C hl 4 rfl dX8_feed_31 ?_
    obtain ⟨u4, e4, hf⟩ := bx hf
    refine r_callVv (ws' := (mO G am as_ ar ac an ath ah u4 ++ [])) (As := [.int x4]) (rest := []) C hw hl.1 kX8_feedNumber ml_X8_59 (c_X8_feedNumber l G am as_ ar ac an ath ah _ u3 x4 u4 e4) (CutX.take mO_f CutX.none) _ (gx_h mO_o) rfl ⟨rfl, rfl⟩ ⟨Nat.le_of_ble_eq_true rfl, Nat.le_of_ble_eq_true rfl⟩ rfl ⟨Nat.zero_le _, Nat.zero_le _⟩ rfl (Nat.le_of_ble_eq_true rfl) dX8_feed_33 (fun H locs hw => ?_)
    refine r_aload0 C hl 0 rfl dX8_feed_36 ?_
    refine r_iload C hl 5 rfl dX8_feed_37 ?_
    obtain ⟨u5, e5, hf⟩ := bx hf
    refine r_callVv (ws' := (mO G am as_ ar ac an ath ah u5 ++ [])) (As := [.int x5]) (rest := []) C hw hl.1 kX8_feedNumber ml_X8_59 (c_X8_feedNumber l G am as_ ar ac an ath ah _ u4 x5 u5 e5) (CutX.take mO_f CutX.none) _ (gx_h mO_o) rfl ⟨rfl, rfl⟩ ⟨Nat.le_of_ble_eq_true rfl, Nat.le_of_ble_eq_true rfl⟩ rfl ⟨Nat.zero_le _, Nat.zero_le _⟩ rfl (Nat.le_of_ble_eq_true rfl) dX8_feed_39 (fun H locs hw => ?_)
    refine r_aload0 C hl 0 rfl dX8_feed_42 ?_
    refine r_get C hw _ (gx_h mO_o) 1 fl_X8_55 rfl dX8_feed_43 ?_
    exact fin_i C hw (Option.some.inj hf) (fun o => o.1) (fun o => (mO G am as_ ar ac an ath ah o.2 ++ [])) rfl rfl dX8_feed_46
  · replace hf := ifn hf hc
    refine lv_iconst (v := (-1)) C.1 C.2.1 dX8_feed_13 (by decide) ?_
    exact fin_i C hw (Option.some.inj hf) (fun o => o.1) (fun o => (mO G am as_ ar ac an ath ah o.2 ++ [])) rfl rfl dX8_feed_14
set_option maxHeartbeats 4000000 in
set_option maxRecDepth 100000 in
theorem c_X8_about (l : Launch) (G : GG) (am : Nat → Nat) (as_ : Nat → Nat) (ar : Nat → Nat) (ac : Nat → Nat) (an : Nat → Nat) (ath : Nat → Nat) (ah : Nat → Nat) (sz : Nat) (m_am : Pic) (s_as_ : Pic) (t_an : Pic) (p_an : Pic) (z_an : Pic) (x1 : Int32) (out : Int32 × Pic) (hf : f_X8_about m_am s_as_ t_an p_an z_an x1 = some out) : Met l yX8_about (.code yX8_about cX8_about 3 (some .int) :: BT) ({ frames := 1, cells := 0, slots := 0, locals := 23 }) (va_Pc [.ref (am 99), .int x1] (PreW G sz (mO G am as_ ar ac an ath ah m_am ++ (sO G as_ s_as_ ++ (tO G an t_an ++ (pO G an p_an ++ (zO G an z_an ++ []))))))) (Ans G out.1 (va_A (mO G am as_ ar ac an ath ah m_am ++ (sO G as_ s_as_ ++ (tO G an t_an ++ (pO G an p_an ++ (zO G an z_an ++ []))))) sz) (mO G am as_ ar ac an ath ah out.2 ++ (sO G as_ s_as_ ++ (tO G an t_an ++ (pO G an p_an ++ (zO G an z_an ++ [])))))) 0 0 (va_A (mO G am as_ ar ac an ath ah m_am ++ (sO G as_ s_as_ ++ (tO G an t_an ++ (pO G an p_an ++ (zO G an z_an ++ []))))) sz) := by
  refine Met.into (by decide) (Nat.le_of_ble_eq_true rfl) ?_
  intro p e s m below meth c C hsz ls hl hw
  have hl : lv_has ls 3 [(0, .ref (am 99)), (1, .int x1)] := hl
  clear hsz
  generalize va_A (mO G am as_ ar ac an ath ah m_am ++ (sO G as_ s_as_ ++ (tO G an t_an ++ (pO G an p_an ++ (zO G an z_an ++ []))))) sz = A at hw ⊢
  unfold f_X8_about at hf
  refine r_aload0 C hl 0 rfl dX8_about_0 ?_
  refine r_get C hw _ (gx_h mO_o) 2 fl_X8_85 rfl dX8_about_1 ?_
  refine lv_if_ne (tgt := 13) C.1 C.2.1 dX8_about_4 (by decide) (fun hc => ?_) (fun hc => ?_)
  · replace hf := ifn hf hc
    refine r_aload0 C hl 0 rfl dX8_about_13 ?_
    refine r_get C hw _ (gx_h mO_o) 9 fl_X8_37 rfl dX8_about_14 ?_
    refine r_get C hw _ (gx_t (gx_t (gx_h tO_o))) 2 fl_X8_105 rfl dX8_about_17 ?_
    refine r_astore0 C hl [(2, .ref (an 99)), (0, .ref (am 99)), (1, .int x1)] (by decide) rfl dX8_about_20 (fun ls hl => ?_)
    refine r_iload0 C hl 2 rfl dX8_about_21 ?_
    rcases Decidable.em (x1 = 0) with hc | h0_
    · replace hf := ifp hf hc
      refine lv_tableIn (tgt := 80) C.1 C.2.1 dX8_about_22 (by rw [hc]; decide) (by rw [hc]; decide) (by rw [hc]; rfl) (by decide) ?_
      refine r_aload0 C hl 1 rfl dX8_about_80 ?_
      refine r_aload0 C hl 0 rfl dX8_about_81 ?_
      refine r_get C hw _ (gx_t (gx_t (gx_t (gx_h pO_o)))) 0 fl_X8_108 rfl dX8_about_82 ?_
      obtain ⟨u16, e16, hf⟩ := bx hf
      refine r_callVi (ws' := (mO G am as_ ar ac an ath ah u16.2 ++ (sO G as_ s_as_ ++ (tO G an t_an ++ (pO G an p_an ++ (zO G an z_an ++ [])))))) (As := [.int (gS p_an 0)]) (rest := []) C hw hl.1 kX8_answer ml_X8_99 (c_X8_answer l G am as_ ar ac an ath ah _ m_am (gS p_an 0) u16 e16) (CutX.take mO_f CutX.none) _ (gx_h mO_o) rfl ⟨rfl, rfl⟩ ⟨Nat.le_of_ble_eq_true rfl, Nat.le_of_ble_eq_true rfl⟩ rfl ⟨Nat.zero_le _, Nat.zero_le _⟩ rfl (Nat.le_of_ble_eq_true rfl) dX8_about_85 (fun H locs hw => ?_)
      exact fin_i C hw (Option.some.inj hf) (fun o => o.1) (fun o => (mO G am as_ ar ac an ath ah o.2 ++ (sO G as_ s_as_ ++ (tO G an t_an ++ (pO G an p_an ++ (zO G an z_an ++ [])))))) rfl rfl dX8_about_88
    replace hf := ifn hf h0_
    rcases Decidable.em (x1 = 1) with hc | h1_
    · replace hf := ifp hf hc
      refine lv_tableIn (tgt := 89) C.1 C.2.1 dX8_about_22 (by rw [hc]; decide) (by rw [hc]; decide) (by rw [hc]; rfl) (by decide) ?_
      refine r_aload0 C hl 1 rfl dX8_about_89 ?_
      refine r_aload0 C hl 0 rfl dX8_about_90 ?_
      refine r_get C hw _ (gx_t (gx_t (gx_t (gx_h pO_o)))) 1 fl_X8_111 rfl dX8_about_91 ?_
      obtain ⟨u15, e15, hf⟩ := bx hf
      refine r_callVi (ws' := (mO G am as_ ar ac an ath ah u15.2 ++ (sO G as_ s_as_ ++ (tO G an t_an ++ (pO G an p_an ++ (zO G an z_an ++ [])))))) (As := [.int (gS p_an 1)]) (rest := []) C hw hl.1 kX8_answer ml_X8_99 (c_X8_answer l G am as_ ar ac an ath ah _ m_am (gS p_an 1) u15 e15) (CutX.take mO_f CutX.none) _ (gx_h mO_o) rfl ⟨rfl, rfl⟩ ⟨Nat.le_of_ble_eq_true rfl, Nat.le_of_ble_eq_true rfl⟩ rfl ⟨Nat.zero_le _, Nat.zero_le _⟩ rfl (Nat.le_of_ble_eq_true rfl) dX8_about_94 (fun H locs hw => ?_)
      exact fin_i C hw (Option.some.inj hf) (fun o => o.1) (fun o => (mO G am as_ ar ac an ath ah o.2 ++ (sO G as_ s_as_ ++ (tO G an t_an ++ (pO G an p_an ++ (zO G an z_an ++ [])))))) rfl rfl dX8_about_97
    replace hf := ifn hf h1_
    rcases Decidable.em (x1 = 2) with hc | h2_
    · replace hf := ifp hf hc
      refine lv_tableIn (tgt := 98) C.1 C.2.1 dX8_about_22 (by rw [hc]; decide) (by rw [hc]; decide) (by rw [hc]; rfl) (by decide) ?_
      refine r_aload0 C hl 1 rfl dX8_about_98 ?_
      refine r_aload0 C hl 0 rfl dX8_about_99 ?_
      refine r_get C hw _ (gx_t (gx_t (gx_t (gx_h pO_o)))) 2 fl_X8_114 rfl dX8_about_100 ?_
      obtain ⟨u14, e14, hf⟩ := bx hf
      refine r_callVi (ws' := (mO G am as_ ar ac an ath ah u14.2 ++ (sO G as_ s_as_ ++ (tO G an t_an ++ (pO G an p_an ++ (zO G an z_an ++ [])))))) (As := [.int (gS p_an 2)]) (rest := []) C hw hl.1 kX8_answer ml_X8_99 (c_X8_answer l G am as_ ar ac an ath ah _ m_am (gS p_an 2) u14 e14) (CutX.take mO_f CutX.none) _ (gx_h mO_o) rfl ⟨rfl, rfl⟩ ⟨Nat.le_of_ble_eq_true rfl, Nat.le_of_ble_eq_true rfl⟩ rfl ⟨Nat.zero_le _, Nat.zero_le _⟩ rfl (Nat.le_of_ble_eq_true rfl) dX8_about_103 (fun H locs hw => ?_)
      exact fin_i C hw (Option.some.inj hf) (fun o => o.1) (fun o => (mO G am as_ ar ac an ath ah o.2 ++ (sO G as_ s_as_ ++ (tO G an t_an ++ (pO G an p_an ++ (zO G an z_an ++ [])))))) rfl rfl dX8_about_106
    replace hf := ifn hf h2_
    rcases Decidable.em (x1 = 3) with hc | h3_
    · replace hf := ifp hf hc
      refine lv_tableIn (tgt := 107) C.1 C.2.1 dX8_about_22 (by rw [hc]; decide) (by rw [hc]; decide) (by rw [hc]; rfl) (by decide) ?_
      refine r_aload0 C hl 1 rfl dX8_about_107 ?_
      refine r_aload0 C hl 1 rfl dX8_about_108 ?_
      refine r_get C hw _ (gx_h mO_o) 6 fl_X8_16 rfl dX8_about_109 ?_
      refine r_get C hw _ (gx_t (gx_h sO_o)) 3 fl_X8_96 rfl dX8_about_112 ?_
      obtain ⟨u13, e13, hf⟩ := bx hf
      refine r_callVi (ws' := (mO G am as_ ar ac an ath ah u13.2 ++ (sO G as_ s_as_ ++ (tO G an t_an ++ (pO G an p_an ++ (zO G an z_an ++ [])))))) (As := [.int (gS s_as_ 3)]) (rest := []) C hw hl.1 kX8_answer ml_X8_99 (c_X8_answer l G am as_ ar ac an ath ah _ m_am (gS s_as_ 3) u13 e13) (CutX.take mO_f CutX.none) _ (gx_h mO_o) rfl ⟨rfl, rfl⟩ ⟨Nat.le_of_ble_eq_true rfl, Nat.le_of_ble_eq_true rfl⟩ rfl ⟨Nat.zero_le _, Nat.zero_le _⟩ rfl (Nat.le_of_ble_eq_true rfl) dX8_about_115 (fun H locs hw => ?_)
      exact fin_i C hw (Option.some.inj hf) (fun o => o.1) (fun o => (mO G am as_ ar ac an ath ah o.2 ++ (sO G as_ s_as_ ++ (tO G an t_an ++ (pO G an p_an ++ (zO G an z_an ++ [])))))) rfl rfl dX8_about_118
    replace hf := ifn hf h3_
    rcases Decidable.em (x1 = 4) with hc | h4_
    · replace hf := ifp hf hc
      refine lv_tableIn (tgt := 119) C.1 C.2.1 dX8_about_22 (by rw [hc]; decide) (by rw [hc]; decide) (by rw [hc]; rfl) (by decide) ?_
      refine r_aload0 C hl 1 rfl dX8_about_119 ?_
      refine r_aload0 C hl 1 rfl dX8_about_120 ?_
      refine r_get C hw _ (gx_h mO_o) 6 fl_X8_16 rfl dX8_about_121 ?_
      refine r_get C hw _ (gx_t (gx_h sO_o)) 4 fl_X8_117 rfl dX8_about_124 ?_
      obtain ⟨u12, e12, hf⟩ := bx hf
      refine r_callVi (ws' := (mO G am as_ ar ac an ath ah u12.2 ++ (sO G as_ s_as_ ++ (tO G an t_an ++ (pO G an p_an ++ (zO G an z_an ++ [])))))) (As := [.int (gS s_as_ 4)]) (rest := []) C hw hl.1 kX8_answer ml_X8_99 (c_X8_answer l G am as_ ar ac an ath ah _ m_am (gS s_as_ 4) u12 e12) (CutX.take mO_f CutX.none) _ (gx_h mO_o) rfl ⟨rfl, rfl⟩ ⟨Nat.le_of_ble_eq_true rfl, Nat.le_of_ble_eq_true rfl⟩ rfl ⟨Nat.zero_le _, Nat.zero_le _⟩ rfl (Nat.le_of_ble_eq_true rfl) dX8_about_127 (fun H locs hw => ?_)
      exact fin_i C hw (Option.some.inj hf) (fun o => o.1) (fun o => (mO G am as_ ar ac an ath ah o.2 ++ (sO G as_ s_as_ ++ (tO G an t_an ++ (pO G an p_an ++ (zO G an z_an ++ [])))))) rfl rfl dX8_about_130
    replace hf := ifn hf h4_
    rcases Decidable.em (x1 = 5) with hc | h5_
    · replace hf := ifp hf hc
      refine lv_tableIn (tgt := 131) C.1 C.2.1 dX8_about_22 (by rw [hc]; decide) (by rw [hc]; decide) (by rw [hc]; rfl) (by decide) ?_
      refine r_aload0 C hl 1 rfl dX8_about_131 ?_
      refine r_aload0 C hl 0 rfl dX8_about_132 ?_
      refine r_get C hw _ (gx_t (gx_t (gx_t (gx_h pO_o)))) 3 fl_X8_120 rfl dX8_about_133 ?_
      refine r_get C hw _ (gx_t (gx_t (gx_t (gx_t (gx_h zO_o))))) 0 fl_X8_124 rfl dX8_about_136 ?_
      obtain ⟨u11, e11, hf⟩ := bx hf
      refine r_callVi (ws' := (mO G am as_ ar ac an ath ah u11.2 ++ (sO G as_ s_as_ ++ (tO G an t_an ++ (pO G an p_an ++ (zO G an z_an ++ [])))))) (As := [.int (gS z_an 0)]) (rest := []) C hw hl.1 kX8_answer ml_X8_99 (c_X8_answer l G am as_ ar ac an ath ah _ m_am (gS z_an 0) u11 e11) (CutX.take mO_f CutX.none) _ (gx_h mO_o) rfl ⟨rfl, rfl⟩ ⟨Nat.le_of_ble_eq_true rfl, Nat.le_of_ble_eq_true rfl⟩ rfl ⟨Nat.zero_le _, Nat.zero_le _⟩ rfl (Nat.le_of_ble_eq_true rfl) dX8_about_139 (fun H locs hw => ?_)
      exact fin_i C hw (Option.some.inj hf) (fun o => o.1) (fun o => (mO G am as_ ar ac an ath ah o.2 ++ (sO G as_ s_as_ ++ (tO G an t_an ++ (pO G an p_an ++ (zO G an z_an ++ [])))))) rfl rfl dX8_about_142
    replace hf := ifn hf h5_
    rcases Decidable.em (x1 = 6) with hc | h6_
    · replace hf := ifp hf hc
      refine lv_tableIn (tgt := 143) C.1 C.2.1 dX8_about_22 (by rw [hc]; decide) (by rw [hc]; decide) (by rw [hc]; rfl) (by decide) ?_
      refine r_aload0 C hl 1 rfl dX8_about_143 ?_
      refine r_aload0 C hl 0 rfl dX8_about_144 ?_
      refine r_get C hw _ (gx_t (gx_t (gx_t (gx_h pO_o)))) 3 fl_X8_120 rfl dX8_about_145 ?_
      obtain ⟨u9, e9, hf⟩ := bx hf
      refine r_callVi (ws' := (mO G am as_ ar ac an ath ah m_am ++ (sO G as_ s_as_ ++ (tO G an t_an ++ (pO G an p_an ++ (zO G an z_an ++ [])))))) (As := []) (rest := [.ref (am 99)]) C hw hl.1 kX7_countAll ml_X8_129 (c_X7_countAll l G an _ z_an u9 e9) (CutX.skip (CutX.skip (CutX.skip (CutX.skip (CutX.take zO_f CutX.none))))) _ (gx_t (gx_t (gx_t (gx_t (gx_h zO_o))))) rfl ⟨rfl, rfl⟩ ⟨Nat.le_of_ble_eq_true rfl, Nat.le_of_ble_eq_true rfl⟩ rfl ⟨Nat.zero_le _, Nat.zero_le _⟩ rfl (Nat.le_of_ble_eq_true rfl) dX8_about_148 (fun H locs hw => ?_)
      obtain ⟨u10, e10, hf⟩ := bx hf
      refine r_callVi (ws' := (mO G am as_ ar ac an ath ah u10.2 ++ (sO G as_ s_as_ ++ (tO G an t_an ++ (pO G an p_an ++ (zO G an z_an ++ [])))))) (As := [.int u9]) (rest := []) C hw hl.1 kX8_answer ml_X8_99 (c_X8_answer l G am as_ ar ac an ath ah _ m_am u9 u10 e10) (CutX.take mO_f CutX.none) _ (gx_h mO_o) rfl ⟨rfl, rfl⟩ ⟨Nat.le_of_ble_eq_true rfl, Nat.le_of_ble_eq_true rfl⟩ rfl ⟨Nat.zero_le _, Nat.zero_le _⟩ rfl (Nat.le_of_ble_eq_true rfl) dX8_about_151 (fun H locs hw => ?_)
      exact fin_i C hw (Option.some.inj hf) (fun o => o.1) (fun o => (mO G am as_ ar ac an ath ah o.2 ++ (sO G as_ s_as_ ++ (tO G an t_an ++ (pO G an p_an ++ (zO G an z_an ++ [])))))) rfl rfl dX8_about_154
    replace hf := ifn hf h6_
    rcases Decidable.em (x1 = 7) with hc | h7_
    · replace hf := ifp hf hc
      refine lv_tableIn (tgt := 155) C.1 C.2.1 dX8_about_22 (by rw [hc]; decide) (by rw [hc]; decide) (by rw [hc]; rfl) (by decide) ?_
      refine r_aload0 C hl 1 rfl dX8_about_155 ?_
      refine r_aload0 C hl 0 rfl dX8_about_156 ?_
      refine r_get C hw _ (gx_t (gx_t (gx_t (gx_h pO_o)))) 11 fl_X8_132 rfl dX8_about_157 ?_
      obtain ⟨u8, e8, hf⟩ := bx hf
      refine r_callVi (ws' := (mO G am as_ ar ac an ath ah u8.2 ++ (sO G as_ s_as_ ++ (tO G an t_an ++ (pO G an p_an ++ (zO G an z_an ++ [])))))) (As := [.int (gS p_an 11)]) (rest := []) C hw hl.1 kX8_answer ml_X8_99 (c_X8_answer l G am as_ ar ac an ath ah _ m_am (gS p_an 11) u8 e8) (CutX.take mO_f CutX.none) _ (gx_h mO_o) rfl ⟨rfl, rfl⟩ ⟨Nat.le_of_ble_eq_true rfl, Nat.le_of_ble_eq_true rfl⟩ rfl ⟨Nat.zero_le _, Nat.zero_le _⟩ rfl (Nat.le_of_ble_eq_true rfl) dX8_about_160 (fun H locs hw => ?_)
      exact fin_i C hw (Option.some.inj hf) (fun o => o.1) (fun o => (mO G am as_ ar ac an ath ah o.2 ++ (sO G as_ s_as_ ++ (tO G an t_an ++ (pO G an p_an ++ (zO G an z_an ++ [])))))) rfl rfl dX8_about_163
    replace hf := ifn hf h7_
    rcases Decidable.em (x1 = 8) with hc | h8_
    · replace hf := ifp hf hc
      refine lv_tableIn (tgt := 164) C.1 C.2.1 dX8_about_22 (by rw [hc]; decide) (by rw [hc]; decide) (by rw [hc]; rfl) (by decide) ?_
      refine r_aload0 C hl 1 rfl dX8_about_164 ?_
      refine r_aload0 C hl 0 rfl dX8_about_165 ?_
      refine lv_iconst (v := 1) C.1 C.2.1 dX8_about_166 (by decide) ?_
      obtain ⟨u6, e6, hf⟩ := bx hf
      refine r_callVi (ws' := (mO G am as_ ar ac an ath ah m_am ++ (sO G as_ s_as_ ++ (tO G an t_an ++ (pO G an p_an ++ (zO G an z_an ++ [])))))) (As := [.int 1]) (rest := [.ref (am 99)]) C hw hl.1 kX3_countAt ml_X8_135 (c_X3_countAt l G an _ p_an 1 u6 e6) (CutX.skip (CutX.skip (CutX.skip (CutX.take pO_f CutX.none)))) _ (gx_t (gx_t (gx_t (gx_h pO_o)))) rfl ⟨rfl, rfl⟩ ⟨Nat.le_of_ble_eq_true rfl, Nat.le_of_ble_eq_true rfl⟩ rfl ⟨Nat.zero_le _, Nat.zero_le _⟩ rfl (Nat.le_of_ble_eq_true rfl) dX8_about_167 (fun H locs hw => ?_)
      obtain ⟨u7, e7, hf⟩ := bx hf
      refine r_callVi (ws' := (mO G am as_ ar ac an ath ah u7.2 ++ (sO G as_ s_as_ ++ (tO G an t_an ++ (pO G an p_an ++ (zO G an z_an ++ [])))))) (As := [.int u6]) (rest := []) C hw hl.1 kX8_answer ml_X8_99 (c_X8_answer l G am as_ ar ac an ath ah _ m_am u6 u7 e7) (CutX.take mO_f CutX.none) _ (gx_h mO_o) rfl ⟨rfl, rfl⟩ ⟨Nat.le_of_ble_eq_true rfl, Nat.le_of_ble_eq_true rfl⟩ rfl ⟨Nat.zero_le _, Nat.zero_le _⟩ rfl (Nat.le_of_ble_eq_true rfl) dX8_about_170 (fun H locs hw => ?_)
      exact fin_i C hw (Option.some.inj hf) (fun o => o.1) (fun o => (mO G am as_ ar ac an ath ah o.2 ++ (sO G as_ s_as_ ++ (tO G an t_an ++ (pO G an p_an ++ (zO G an z_an ++ [])))))) rfl rfl dX8_about_173
    replace hf := ifn hf h8_
    rcases Decidable.em (x1 = 9) with hc | h9_
    · replace hf := ifp hf hc
      refine lv_tableIn (tgt := 174) C.1 C.2.1 dX8_about_22 (by rw [hc]; decide) (by rw [hc]; decide) (by rw [hc]; rfl) (by decide) ?_
      refine r_aload0 C hl 1 rfl dX8_about_174 ?_
      refine r_aload0 C hl 0 rfl dX8_about_175 ?_
      refine lv_iconst (v := 3) C.1 C.2.1 dX8_about_176 (by decide) ?_
      obtain ⟨u4, e4, hf⟩ := bx hf
      refine r_callVi (ws' := (mO G am as_ ar ac an ath ah m_am ++ (sO G as_ s_as_ ++ (tO G an t_an ++ (pO G an p_an ++ (zO G an z_an ++ [])))))) (As := [.int 3]) (rest := [.ref (am 99)]) C hw hl.1 kX3_countAt ml_X8_135 (c_X3_countAt l G an _ p_an 3 u4 e4) (CutX.skip (CutX.skip (CutX.skip (CutX.take pO_f CutX.none)))) _ (gx_t (gx_t (gx_t (gx_h pO_o)))) rfl ⟨rfl, rfl⟩ ⟨Nat.le_of_ble_eq_true rfl, Nat.le_of_ble_eq_true rfl⟩ rfl ⟨Nat.zero_le _, Nat.zero_le _⟩ rfl (Nat.le_of_ble_eq_true rfl) dX8_about_177 (fun H locs hw => ?_)
      obtain ⟨u5, e5, hf⟩ := bx hf
      refine r_callVi (ws' := (mO G am as_ ar ac an ath ah u5.2 ++ (sO G as_ s_as_ ++ (tO G an t_an ++ (pO G an p_an ++ (zO G an z_an ++ [])))))) (As := [.int u4]) (rest := []) C hw hl.1 kX8_answer ml_X8_99 (c_X8_answer l G am as_ ar ac an ath ah _ m_am u4 u5 e5) (CutX.take mO_f CutX.none) _ (gx_h mO_o) rfl ⟨rfl, rfl⟩ ⟨Nat.le_of_ble_eq_true rfl, Nat.le_of_ble_eq_true rfl⟩ rfl ⟨Nat.zero_le _, Nat.zero_le _⟩ rfl (Nat.le_of_ble_eq_true rfl) dX8_about_180 (fun H locs hw => ?_)
      exact fin_i C hw (Option.some.inj hf) (fun o => o.1) (fun o => (mO G am as_ ar ac an ath ah o.2 ++ (sO G as_ s_as_ ++ (tO G an t_an ++ (pO G an p_an ++ (zO G an z_an ++ [])))))) rfl rfl dX8_about_183
    replace hf := ifn hf h9_
    rcases Decidable.em (x1 = 10) with hc | h10_
    · replace hf := ifp hf hc
      refine lv_tableIn (tgt := 184) C.1 C.2.1 dX8_about_22 (by rw [hc]; decide) (by rw [hc]; decide) (by rw [hc]; rfl) (by decide) ?_
      refine r_aload0 C hl 1 rfl dX8_about_184 ?_
      refine r_aload0 C hl 0 rfl dX8_about_185 ?_
      obtain ⟨u2, e2, hf⟩ := bx hf
      refine r_callVi (ws' := (mO G am as_ ar ac an ath ah m_am ++ (sO G as_ s_as_ ++ (tO G an t_an ++ (pO G an p_an ++ (zO G an z_an ++ [])))))) (As := []) (rest := [.ref (am 99)]) C hw hl.1 kX3_unitsTaken ml_X8_138 (c_X3_unitsTaken l G an _ p_an u2 e2) (CutX.skip (CutX.skip (CutX.skip (CutX.take pO_f CutX.none)))) _ (gx_t (gx_t (gx_t (gx_h pO_o)))) rfl ⟨rfl, rfl⟩ ⟨Nat.le_of_ble_eq_true rfl, Nat.le_of_ble_eq_true rfl⟩ rfl ⟨Nat.zero_le _, Nat.zero_le _⟩ rfl (Nat.le_of_ble_eq_true rfl) dX8_about_186 (fun H locs hw => ?_)
      obtain ⟨u3, e3, hf⟩ := bx hf
      refine r_callVi (ws' := (mO G am as_ ar ac an ath ah u3.2 ++ (sO G as_ s_as_ ++ (tO G an t_an ++ (pO G an p_an ++ (zO G an z_an ++ [])))))) (As := [.int u2]) (rest := []) C hw hl.1 kX8_answer ml_X8_99 (c_X8_answer l G am as_ ar ac an ath ah _ m_am u2 u3 e3) (CutX.take mO_f CutX.none) _ (gx_h mO_o) rfl ⟨rfl, rfl⟩ ⟨Nat.le_of_ble_eq_true rfl, Nat.le_of_ble_eq_true rfl⟩ rfl ⟨Nat.zero_le _, Nat.zero_le _⟩ rfl (Nat.le_of_ble_eq_true rfl) dX8_about_189 (fun H locs hw => ?_)
      exact fin_i C hw (Option.some.inj hf) (fun o => o.1) (fun o => (mO G am as_ ar ac an ath ah o.2 ++ (sO G as_ s_as_ ++ (tO G an t_an ++ (pO G an p_an ++ (zO G an z_an ++ [])))))) rfl rfl dX8_about_192
    replace hf := ifn hf h10_
    refine lv_tableOut (tgt := 193) C.1 C.2.1 dX8_about_22 (sw_out11 h0_ h1_ h2_ h3_ h4_ h5_ h6_ h7_ h8_ h9_ h10_) (by decide) ?_
    refine r_aload0 C hl 1 rfl dX8_about_193 ?_
    refine lv_iconst (v := 1) C.1 C.2.1 dX8_about_194 (by decide) ?_
    obtain ⟨u1, e1, hf⟩ := bx hf
    refine r_callVi (ws' := (mO G am as_ ar ac an ath ah u1.2 ++ (sO G as_ s_as_ ++ (tO G an t_an ++ (pO G an p_an ++ (zO G an z_an ++ [])))))) (As := [.int 1]) (rest := []) C hw hl.1 kX8_refuse ml_X8_63 (c_X8_refuse l G am as_ ar ac an ath ah _ m_am 1 u1 e1) (CutX.take mO_f CutX.none) _ (gx_h mO_o) rfl ⟨rfl, rfl⟩ ⟨Nat.le_of_ble_eq_true rfl, Nat.le_of_ble_eq_true rfl⟩ rfl ⟨Nat.zero_le _, Nat.zero_le _⟩ rfl (Nat.le_of_ble_eq_true rfl) dX8_about_195 (fun H locs hw => ?_)
    exact fin_i C hw (Option.some.inj hf) (fun o => o.1) (fun o => (mO G am as_ ar ac an ath ah o.2 ++ (sO G as_ s_as_ ++ (tO G an t_an ++ (pO G an p_an ++ (zO G an z_an ++ [])))))) rfl rfl dX8_about_198
  · replace hf := ifp hf hc
    refine r_aload0 C hl 0 rfl dX8_about_7 ?_
    refine lv_iconst (v := 1) C.1 C.2.1 dX8_about_8 (by decide) ?_
    obtain ⟨u17, e17, hf⟩ := bx hf
    refine r_callVi (ws' := (mO G am as_ ar ac an ath ah u17.2 ++ (sO G as_ s_as_ ++ (tO G an t_an ++ (pO G an p_an ++ (zO G an z_an ++ [])))))) (As := [.int 1]) (rest := []) C hw hl.1 kX8_refuse ml_X8_63 (c_X8_refuse l G am as_ ar ac an ath ah _ m_am 1 u17 e17) (CutX.take mO_f CutX.none) _ (gx_h mO_o) rfl ⟨rfl, rfl⟩ ⟨Nat.le_of_ble_eq_true rfl, Nat.le_of_ble_eq_true rfl⟩ rfl ⟨Nat.zero_le _, Nat.zero_le _⟩ rfl (Nat.le_of_ble_eq_true rfl) dX8_about_9 (fun H locs hw => ?_)
    exact fin_i C hw (Option.some.inj hf) (fun o => o.1) (fun o => (mO G am as_ ar ac an ath ah o.2 ++ (sO G as_ s_as_ ++ (tO G an t_an ++ (pO G an p_an ++ (zO G an z_an ++ [])))))) rfl rfl dX8_about_12
set_option maxHeartbeats 4000000 in
set_option maxRecDepth 100000 in
theorem c_X8_cell (l : Launch) (G : GG) (am : Nat → Nat) (as_ : Nat → Nat) (ar : Nat → Nat) (ac : Nat → Nat) (an : Nat → Nat) (ath : Nat → Nat) (ah : Nat → Nat) (sz : Nat) (m_am : Pic) (s_as_ : Pic) (t_an : Pic) (x1 x2 : Int32) (out : Int32 × Pic) (hf : f_X8_cell m_am s_as_ t_an x1 x2 = some out) : Met l yX8_cell (.code yX8_cell cX8_cell 3 (some .int) :: BT) ({ frames := 1, cells := 0, slots := 0, locals := 21 }) (va_Pc [.ref (am 99), .int x1, .int x2] (PreW G sz (mO G am as_ ar ac an ath ah m_am ++ (sO G as_ s_as_ ++ (tO G an t_an ++ []))))) (Ans G out.1 (va_A (mO G am as_ ar ac an ath ah m_am ++ (sO G as_ s_as_ ++ (tO G an t_an ++ []))) sz) (mO G am as_ ar ac an ath ah out.2 ++ (sO G as_ s_as_ ++ (tO G an t_an ++ [])))) 0 0 (va_A (mO G am as_ ar ac an ath ah m_am ++ (sO G as_ s_as_ ++ (tO G an t_an ++ []))) sz) := by
  refine Met.into (by decide) (Nat.le_of_ble_eq_true rfl) ?_
  intro p e s m below meth c C hsz ls hl hw
  have hl : lv_has ls 3 [(0, .ref (am 99)), (1, .int x1), (2, .int x2)] := hl
  clear hsz
  generalize va_A (mO G am as_ ar ac an ath ah m_am ++ (sO G as_ s_as_ ++ (tO G an t_an ++ []))) sz = A at hw ⊢
  have hB_15 : ∀ (m_am : Pic), b_X8_cell_15 s_as_ t_an x1 x2  m_am = some out → ∀ (H : Heap) (locs : List Loc), Wd G A s H locs (mO G am as_ ar ac an ath ah m_am ++ (sO G as_ s_as_ ++ (tO G an t_an ++ []))) → ∀ ls : Array Slot, lv_has ls 3 [(0, .ref (am 99))] → W p l e ({ frames := 1, cells := 0, slots := 0, locals := 21 }) s m [.ref (am 99), .int x1, .int x2].toArray below meth c H locs 0 0 (MQ below (Ans G out.1 A (mO G am as_ ar ac an ath ah out.2 ++ (sO G as_ s_as_ ++ (tO G an t_an ++ [])))) [.ref (am 99), .int x1, .int x2].toArray s 0 0 A) (F0 m 15 ls []) := by
    intro m_am hf H locs hw ls hl
    unfold b_X8_cell_15 at hf
    refine r_aload0 C hl 0 rfl dX8_cell_15 ?_
    refine lv_iconst (v := 1) C.1 C.2.1 dX8_cell_16 (by decide) ?_
    obtain ⟨u2, e2, hf⟩ := bx hf
    refine r_callVi (ws' := (mO G am as_ ar ac an ath ah u2.2 ++ (sO G as_ s_as_ ++ (tO G an t_an ++ [])))) (As := [.int 1]) (rest := []) C hw hl.1 kX8_refuse ml_X8_63 (c_X8_refuse l G am as_ ar ac an ath ah _ m_am 1 u2 e2) (CutX.take mO_f CutX.none) _ (gx_h mO_o) rfl ⟨rfl, rfl⟩ ⟨Nat.le_of_ble_eq_true rfl, Nat.le_of_ble_eq_true rfl⟩ rfl ⟨Nat.zero_le _, Nat.zero_le _⟩ rfl (Nat.le_of_ble_eq_true rfl) dX8_cell_17 (fun H locs hw => ?_)
    exact fin_i C hw (Option.some.inj hf) (fun o => o.1) (fun o => (mO G am as_ ar ac an ath ah o.2 ++ (sO G as_ s_as_ ++ (tO G an t_an ++ [])))) rfl rfl dX8_cell_20
  unfold f_X8_cell at hf
  refine r_aload0 C hl 0 rfl dX8_cell_0 ?_
  refine r_iload0 C hl 1 rfl dX8_cell_1 ?_
  obtain ⟨u1, e1, hf⟩ := bx hf
  refine r_callVi (ws' := (mO G am as_ ar ac an ath ah m_am ++ (sO G as_ s_as_ ++ (tO G an t_an ++ [])))) (As := [.int x1]) (rest := []) C hw hl.1 kX8_noData ml_X8_141 (c_X8_noData l G am as_ ar ac an ath ah _ m_am s_as_ x1 u1 e1) (CutX.take mO_f (CutX.take sO_f CutX.none)) _ (gx_h mO_o) rfl ⟨rfl, rfl⟩ ⟨Nat.le_of_ble_eq_true rfl, Nat.le_of_ble_eq_true rfl⟩ rfl ⟨Nat.zero_le _, Nat.zero_le _⟩ rfl (Nat.le_of_ble_eq_true rfl) dX8_cell_2 (fun H locs hw => ?_)
  refine lv_if_ne (tgt := 15) C.1 C.2.1 dX8_cell_5 (by decide) (fun hc => ?_) (fun hc => ?_)
  · replace hf := ifn hf hc
    exact hB_15  m_am hf _ _ hw _ (lv_sub hl [0] rfl)
  · replace hf := ifp hf hc
    refine r_iload0 C hl 2 rfl dX8_cell_8 ?_
    obtain ⟨u3, e3, hf⟩ := bx hf
    refine r_callSi (ws' := (mO G am as_ ar ac an ath ah m_am ++ (sO G as_ s_as_ ++ (tO G an t_an ++ [])))) (As := [.int x2]) (rest := []) C hw hl.1 kX8_noCell ml_X8_145 (c_X8_noCell l G _ x2 u3 e3) CutX.none ⟨rfl, rfl⟩ ⟨Nat.le_of_ble_eq_true rfl, Nat.le_of_ble_eq_true rfl⟩ rfl ⟨Nat.zero_le _, Nat.zero_le _⟩ rfl (Nat.le_of_ble_eq_true rfl) dX8_cell_9 (fun H locs hw => ?_)
    refine lv_if_eq (tgt := 21) C.1 C.2.1 dX8_cell_12 (by decide) (fun hc => ?_) (fun hc => ?_)
    · replace hf := ifp hf hc
      refine r_aload0 C hl 0 rfl dX8_cell_21 ?_
      refine r_aload0 C hl 0 rfl dX8_cell_22 ?_
      refine r_get C hw _ (gx_h mO_o) 9 fl_X8_37 rfl dX8_cell_23 ?_
      refine r_get C hw _ (gx_t (gx_t (gx_h tO_o))) 0 fl_X8_148 rfl dX8_cell_26 ?_
      refine r_iload0 C hl 1 rfl dX8_cell_29 ?_
      refine lv_bipush (v := 16) C.1 C.2.1 dX8_cell_30 (by decide) ?_
      refine lv_imul C.1 C.2.1 dX8_cell_32 ?_
      refine r_iload0 C hl 2 rfl dX8_cell_33 ?_
      refine lv_iadd C.1 C.2.1 dX8_cell_34 ?_
      obtain ⟨v4_, e4, hf⟩ := bx hf
      refine r_iald C hw _ (gx_t (gx_t (gx_h tO_g0))) e4 dX8_cell_35 ?_
      obtain ⟨u5, e5, hf⟩ := bx hf
      refine r_callVi (ws' := (mO G am as_ ar ac an ath ah u5.2 ++ (sO G as_ s_as_ ++ (tO G an t_an ++ [])))) (As := [.int v4_]) (rest := []) C hw hl.1 kX8_answer ml_X8_99 (c_X8_answer l G am as_ ar ac an ath ah _ m_am v4_ u5 e5) (CutX.take mO_f CutX.none) _ (gx_h mO_o) rfl ⟨rfl, rfl⟩ ⟨Nat.le_of_ble_eq_true rfl, Nat.le_of_ble_eq_true rfl⟩ rfl ⟨Nat.zero_le _, Nat.zero_le _⟩ rfl (Nat.le_of_ble_eq_true rfl) dX8_cell_36 (fun H locs hw => ?_)
      exact fin_i C hw (Option.some.inj hf) (fun o => o.1) (fun o => (mO G am as_ ar ac an ath ah o.2 ++ (sO G as_ s_as_ ++ (tO G an t_an ++ [])))) rfl rfl dX8_cell_39
    · replace hf := ifn hf hc
      exact hB_15  m_am hf _ _ hw _ (lv_sub hl [0] rfl)
set_option maxHeartbeats 4000000 in
set_option maxRecDepth 100000 in
theorem c_X8_squeezed (l : Launch) (G : GG) (am : Nat → Nat) (as_ : Nat → Nat) (ar : Nat → Nat) (ac : Nat → Nat) (an : Nat → Nat) (ath : Nat → Nat) (ah : Nat → Nat) (sz : Nat) (m_am : Pic) (s_as_ : Pic) (t_an : Pic) (x1 : Int32) (out : Int32 × Pic) (hf : f_X8_squeezed m_am s_as_ t_an x1 = some out) : Met l yX8_squeezed (.code yX8_squeezed cX8_squeezed 2 (some .int) :: BT) ({ frames := 1, cells := 0, slots := 0, locals := 21 }) (va_Pc [.ref (am 99), .int x1] (PreW G sz (mO G am as_ ar ac an ath ah m_am ++ (sO G as_ s_as_ ++ (tO G an t_an ++ []))))) (Ans G out.1 (va_A (mO G am as_ ar ac an ath ah m_am ++ (sO G as_ s_as_ ++ (tO G an t_an ++ []))) sz) (mO G am as_ ar ac an ath ah out.2 ++ (sO G as_ s_as_ ++ (tO G an t_an ++ [])))) 0 0 (va_A (mO G am as_ ar ac an ath ah m_am ++ (sO G as_ s_as_ ++ (tO G an t_an ++ []))) sz) := by
  refine Met.into (by decide) (Nat.le_of_ble_eq_true rfl) ?_
  intro p e s m below meth c C hsz ls hl hw
  have hl : lv_has ls 2 [(0, .ref (am 99)), (1, .int x1)] := hl
  clear hsz
  generalize va_A (mO G am as_ ar ac an ath ah m_am ++ (sO G as_ s_as_ ++ (tO G an t_an ++ []))) sz = A at hw ⊢
  unfold f_X8_squeezed at hf
  refine r_aload0 C hl 0 rfl dX8_squeezed_0 ?_
  refine r_iload0 C hl 1 rfl dX8_squeezed_1 ?_
  obtain ⟨u1, e1, hf⟩ := bx hf
  refine r_callVi (ws' := (mO G am as_ ar ac an ath ah m_am ++ (sO G as_ s_as_ ++ (tO G an t_an ++ [])))) (As := [.int x1]) (rest := []) C hw hl.1 kX8_noData ml_X8_141 (c_X8_noData l G am as_ ar ac an ath ah _ m_am s_as_ x1 u1 e1) (CutX.take mO_f (CutX.take sO_f CutX.none)) _ (gx_h mO_o) rfl ⟨rfl, rfl⟩ ⟨Nat.le_of_ble_eq_true rfl, Nat.le_of_ble_eq_true rfl⟩ rfl ⟨Nat.zero_le _, Nat.zero_le _⟩ rfl (Nat.le_of_ble_eq_true rfl) dX8_squeezed_2 (fun H locs hw => ?_)
  refine lv_if_eq (tgt := 14) C.1 C.2.1 dX8_squeezed_5 (by decide) (fun hc => ?_) (fun hc => ?_)
  · replace hf := ifp hf hc
    refine r_aload0 C hl 0 rfl dX8_squeezed_14 ?_
    refine r_aload0 C hl 0 rfl dX8_squeezed_15 ?_
    refine r_get C hw _ (gx_h mO_o) 9 fl_X8_37 rfl dX8_squeezed_16 ?_
    refine r_get C hw _ (gx_t (gx_t (gx_h tO_o))) 1 fl_X8_151 rfl dX8_squeezed_19 ?_
    refine r_iload0 C hl 1 rfl dX8_squeezed_22 ?_
    obtain ⟨v2_, e2, hf⟩ := bx hf
    refine r_iald C hw _ (gx_t (gx_t (gx_h tO_g1))) e2 dX8_squeezed_23 ?_
    obtain ⟨u3, e3, hf⟩ := bx hf
    refine r_callVi (ws' := (mO G am as_ ar ac an ath ah u3.2 ++ (sO G as_ s_as_ ++ (tO G an t_an ++ [])))) (As := [.int v2_]) (rest := []) C hw hl.1 kX8_answer ml_X8_99 (c_X8_answer l G am as_ ar ac an ath ah _ m_am v2_ u3 e3) (CutX.take mO_f CutX.none) _ (gx_h mO_o) rfl ⟨rfl, rfl⟩ ⟨Nat.le_of_ble_eq_true rfl, Nat.le_of_ble_eq_true rfl⟩ rfl ⟨Nat.zero_le _, Nat.zero_le _⟩ rfl (Nat.le_of_ble_eq_true rfl) dX8_squeezed_24 (fun H locs hw => ?_)
    exact fin_i C hw (Option.some.inj hf) (fun o => o.1) (fun o => (mO G am as_ ar ac an ath ah o.2 ++ (sO G as_ s_as_ ++ (tO G an t_an ++ [])))) rfl rfl dX8_squeezed_27
  · replace hf := ifn hf hc
    refine r_aload0 C hl 0 rfl dX8_squeezed_8 ?_
    refine lv_iconst (v := 1) C.1 C.2.1 dX8_squeezed_9 (by decide) ?_
    obtain ⟨u4, e4, hf⟩ := bx hf
    refine r_callVi (ws' := (mO G am as_ ar ac an ath ah u4.2 ++ (sO G as_ s_as_ ++ (tO G an t_an ++ [])))) (As := [.int 1]) (rest := []) C hw hl.1 kX8_refuse ml_X8_63 (c_X8_refuse l G am as_ ar ac an ath ah _ m_am 1 u4 e4) (CutX.take mO_f CutX.none) _ (gx_h mO_o) rfl ⟨rfl, rfl⟩ ⟨Nat.le_of_ble_eq_true rfl, Nat.le_of_ble_eq_true rfl⟩ rfl ⟨Nat.zero_le _, Nat.zero_le _⟩ rfl (Nat.le_of_ble_eq_true rfl) dX8_squeezed_10 (fun H locs hw => ?_)
    exact fin_i C hw (Option.some.inj hf) (fun o => o.1) (fun o => (mO G am as_ ar ac an ath ah o.2 ++ (sO G as_ s_as_ ++ (tO G an t_an ++ [])))) rfl rfl dX8_squeezed_13
set_option maxHeartbeats 4000000 in
set_option maxRecDepth 100000 in
theorem c_X8_pieces (l : Launch) (G : GG) (am : Nat → Nat) (as_ : Nat → Nat) (ar : Nat → Nat) (ac : Nat → Nat) (an : Nat → Nat) (ath : Nat → Nat) (ah : Nat → Nat) (sz : Nat) (m_am : Pic) (s_as_ : Pic) (c_ac : Pic) (t_an : Pic) (x1 : Int32) (out : Int32 × Pic × Pic) (hf : f_X8_pieces m_am s_as_ c_ac t_an x1 = some out) : Met l yX8_pieces (.code yX8_pieces cX8_pieces 2 (some .int) :: BT) ({ frames := 5, cells := 0, slots := 0, locals := 116 }) (va_Pc [.ref (am 99), .int x1] (PreW G sz (mO G am as_ ar ac an ath ah m_am ++ (sO G as_ s_as_ ++ (cO G ac c_ac ++ (tO G an t_an ++ [])))))) (Ans G out.1 (va_A (mO G am as_ ar ac an ath ah m_am ++ (sO G as_ s_as_ ++ (cO G ac c_ac ++ (tO G an t_an ++ [])))) sz) (mO G am as_ ar ac an ath ah out.2.1 ++ (sO G as_ s_as_ ++ (cO G ac out.2.2 ++ (tO G an t_an ++ []))))) 0 0 (va_A (mO G am as_ ar ac an ath ah m_am ++ (sO G as_ s_as_ ++ (cO G ac c_ac ++ (tO G an t_an ++ [])))) sz) := by
  refine Met.into (by decide) (Nat.le_of_ble_eq_true rfl) ?_
  intro p e s m below meth c C hsz ls hl hw
  have hl : lv_has ls 2 [(0, .ref (am 99)), (1, .int x1)] := hl
  clear hsz
  generalize va_A (mO G am as_ ar ac an ath ah m_am ++ (sO G as_ s_as_ ++ (cO G ac c_ac ++ (tO G an t_an ++ [])))) sz = A at hw ⊢
  unfold f_X8_pieces at hf
  refine r_aload0 C hl 0 rfl dX8_pieces_0 ?_
  refine r_iload0 C hl 1 rfl dX8_pieces_1 ?_
  obtain ⟨u1, e1, hf⟩ := bx hf
  refine r_callVi (ws' := (mO G am as_ ar ac an ath ah m_am ++ (sO G as_ s_as_ ++ (cO G ac c_ac ++ (tO G an t_an ++ []))))) (As := [.int x1]) (rest := []) C hw hl.1 kX8_noData ml_X8_141 (c_X8_noData l G am as_ ar ac an ath ah _ m_am s_as_ x1 u1 e1) (CutX.take mO_f (CutX.take sO_f CutX.none)) _ (gx_h mO_o) rfl ⟨rfl, rfl⟩ ⟨Nat.le_of_ble_eq_true rfl, Nat.le_of_ble_eq_true rfl⟩ rfl ⟨Nat.zero_le _, Nat.zero_le _⟩ rfl (Nat.le_of_ble_eq_true rfl) dX8_pieces_2 (fun H locs hw => ?_)
  refine lv_if_eq (tgt := 14) C.1 C.2.1 dX8_pieces_5 (by decide) (fun hc => ?_) (fun hc => ?_)
  · replace hf := ifp hf hc
    refine r_aload0 C hl 0 rfl dX8_pieces_14 ?_
    refine r_iload0 C hl 1 rfl dX8_pieces_15 ?_
    obtain ⟨u2, e2, hf⟩ := bx hf
    refine r_callVv (ws' := (mO G am as_ ar ac an ath ah m_am ++ (sO G as_ s_as_ ++ (cO G ac u2 ++ (tO G an t_an ++ []))))) (As := [.int x1]) (rest := []) C hw hl.1 kX8_cutData ml_X8_154 (c_X8_cutData l G am as_ ar ac an ath ah _ m_am c_ac t_an x1 u2 e2) (CutX.take mO_f (CutX.skip (CutX.take cO_f (CutX.take tO_f CutX.none)))) _ (gx_h mO_o) rfl ⟨rfl, rfl⟩ ⟨Nat.le_of_ble_eq_true rfl, Nat.le_of_ble_eq_true rfl⟩ rfl ⟨Nat.zero_le _, Nat.zero_le _⟩ rfl (Nat.le_of_ble_eq_true rfl) dX8_pieces_16 (fun H locs hw => ?_)
    refine r_aload0 C hl 0 rfl dX8_pieces_19 ?_
    refine r_aload0 C hl 0 rfl dX8_pieces_20 ?_
    refine r_get C hw _ (gx_h mO_o) 8 fl_X8_30 rfl dX8_pieces_21 ?_
    refine r_get C hw _ (gx_t (gx_t (gx_h cO_o))) 7 fl_X8_157 rfl dX8_pieces_24 ?_
    obtain ⟨u3, e3, hf⟩ := bx hf
    refine r_callVi (ws' := (mO G am as_ ar ac an ath ah u3.2 ++ (sO G as_ s_as_ ++ (cO G ac u2 ++ (tO G an t_an ++ []))))) (As := [.int (gS u2 7)]) (rest := []) C hw hl.1 kX8_answer ml_X8_99 (c_X8_answer l G am as_ ar ac an ath ah _ m_am (gS u2 7) u3 e3) (CutX.take mO_f CutX.none) _ (gx_h mO_o) rfl ⟨rfl, rfl⟩ ⟨Nat.le_of_ble_eq_true rfl, Nat.le_of_ble_eq_true rfl⟩ rfl ⟨Nat.zero_le _, Nat.zero_le _⟩ rfl (Nat.le_of_ble_eq_true rfl) dX8_pieces_27 (fun H locs hw => ?_)
    exact fin_i C hw (Option.some.inj hf) (fun o => o.1) (fun o => (mO G am as_ ar ac an ath ah o.2.1 ++ (sO G as_ s_as_ ++ (cO G ac o.2.2 ++ (tO G an t_an ++ []))))) rfl rfl dX8_pieces_30
  · replace hf := ifn hf hc
    refine r_aload0 C hl 0 rfl dX8_pieces_8 ?_
    refine lv_iconst (v := 1) C.1 C.2.1 dX8_pieces_9 (by decide) ?_
    obtain ⟨u4, e4, hf⟩ := bx hf
    refine r_callVi (ws' := (mO G am as_ ar ac an ath ah u4.2 ++ (sO G as_ s_as_ ++ (cO G ac c_ac ++ (tO G an t_an ++ []))))) (As := [.int 1]) (rest := []) C hw hl.1 kX8_refuse ml_X8_63 (c_X8_refuse l G am as_ ar ac an ath ah _ m_am 1 u4 e4) (CutX.take mO_f CutX.none) _ (gx_h mO_o) rfl ⟨rfl, rfl⟩ ⟨Nat.le_of_ble_eq_true rfl, Nat.le_of_ble_eq_true rfl⟩ rfl ⟨Nat.zero_le _, Nat.zero_le _⟩ rfl (Nat.le_of_ble_eq_true rfl) dX8_pieces_10 (fun H locs hw => ?_)
    exact fin_i C hw (Option.some.inj hf) (fun o => o.1) (fun o => (mO G am as_ ar ac an ath ah o.2.1 ++ (sO G as_ s_as_ ++ (cO G ac o.2.2 ++ (tO G an t_an ++ []))))) rfl rfl dX8_pieces_13
set_option maxHeartbeats 4000000 in
set_option maxRecDepth 100000 in
theorem c_X8_piece (l : Launch) (G : GG) (am : Nat → Nat) (as_ : Nat → Nat) (ar : Nat → Nat) (ac : Nat → Nat) (an : Nat → Nat) (ath : Nat → Nat) (ah : Nat → Nat) (sz : Nat) (m_am : Pic) (s_as_ : Pic) (c_ac : Pic) (t_an : Pic) (x1 x2 x3 : Int32) (out : Int32 × Pic × Pic) (hf : f_X8_piece m_am s_as_ c_ac t_an x1 x2 x3 = some out) : Met l yX8_piece (.code yX8_piece cX8_piece 4 (some .int) :: BT) ({ frames := 5, cells := 0, slots := 0, locals := 116 }) (va_Pc [.ref (am 99), .int x1, .int x2, .int x3] (PreW G sz (mO G am as_ ar ac an ath ah m_am ++ (sO G as_ s_as_ ++ (cO G ac c_ac ++ (tO G an t_an ++ [])))))) (Ans G out.1 (va_A (mO G am as_ ar ac an ath ah m_am ++ (sO G as_ s_as_ ++ (cO G ac c_ac ++ (tO G an t_an ++ [])))) sz) (mO G am as_ ar ac an ath ah out.2.1 ++ (sO G as_ s_as_ ++ (cO G ac out.2.2 ++ (tO G an t_an ++ []))))) 0 0 (va_A (mO G am as_ ar ac an ath ah m_am ++ (sO G as_ s_as_ ++ (cO G ac c_ac ++ (tO G an t_an ++ [])))) sz) := by
  refine Met.into (by decide) (Nat.le_of_ble_eq_true rfl) ?_
  intro p e s m below meth c C hsz ls hl hw
  have hl : lv_has ls 4 [(0, .ref (am 99)), (1, .int x1), (2, .int x2), (3, .int x3)] := hl
  clear hsz
  generalize va_A (mO G am as_ ar ac an ath ah m_am ++ (sO G as_ s_as_ ++ (cO G ac c_ac ++ (tO G an t_an ++ [])))) sz = A at hw ⊢
  have hB_34 : ∀ (m_am : Pic) (c_ac : Pic), b_X8_piece_34 s_as_ t_an x1 x2 x3  m_am c_ac = some out → ∀ (H : Heap) (locs : List Loc), Wd G A s H locs (mO G am as_ ar ac an ath ah m_am ++ (sO G as_ s_as_ ++ (cO G ac c_ac ++ (tO G an t_an ++ [])))) → ∀ ls : Array Slot, lv_has ls 4 [(0, .ref (am 99))] → W p l e ({ frames := 5, cells := 0, slots := 0, locals := 116 }) s m [.ref (am 99), .int x1, .int x2, .int x3].toArray below meth c H locs 0 0 (MQ below (Ans G out.1 A (mO G am as_ ar ac an ath ah out.2.1 ++ (sO G as_ s_as_ ++ (cO G ac out.2.2 ++ (tO G an t_an ++ []))))) [.ref (am 99), .int x1, .int x2, .int x3].toArray s 0 0 A) (F0 m 34 ls []) := by
    intro m_am c_ac hf H locs hw ls hl
    unfold b_X8_piece_34 at hf
    refine r_aload0 C hl 0 rfl dX8_piece_34 ?_
    refine lv_iconst (v := 1) C.1 C.2.1 dX8_piece_35 (by decide) ?_
    obtain ⟨u3, e3, hf⟩ := bx hf
    refine r_callVi (ws' := (mO G am as_ ar ac an ath ah u3.2 ++ (sO G as_ s_as_ ++ (cO G ac c_ac ++ (tO G an t_an ++ []))))) (As := [.int 1]) (rest := []) C hw hl.1 kX8_refuse ml_X8_63 (c_X8_refuse l G am as_ ar ac an ath ah _ m_am 1 u3 e3) (CutX.take mO_f CutX.none) _ (gx_h mO_o) rfl ⟨rfl, rfl⟩ ⟨Nat.le_of_ble_eq_true rfl, Nat.le_of_ble_eq_true rfl⟩ rfl ⟨Nat.zero_le _, Nat.zero_le _⟩ rfl (Nat.le_of_ble_eq_true rfl) dX8_piece_36 (fun H locs hw => ?_)
    exact fin_i C hw (Option.some.inj hf) (fun o => o.1) (fun o => (mO G am as_ ar ac an ath ah o.2.1 ++ (sO G as_ s_as_ ++ (cO G ac o.2.2 ++ (tO G an t_an ++ []))))) rfl rfl dX8_piece_39
  unfold f_X8_piece at hf
  refine r_aload0 C hl 0 rfl dX8_piece_0 ?_
  refine r_iload0 C hl 1 rfl dX8_piece_1 ?_
  obtain ⟨u1, e1, hf⟩ := bx hf
  refine r_callVi (ws' := (mO G am as_ ar ac an ath ah m_am ++ (sO G as_ s_as_ ++ (cO G ac c_ac ++ (tO G an t_an ++ []))))) (As := [.int x1]) (rest := []) C hw hl.1 kX8_noData ml_X8_141 (c_X8_noData l G am as_ ar ac an ath ah _ m_am s_as_ x1 u1 e1) (CutX.take mO_f (CutX.take sO_f CutX.none)) _ (gx_h mO_o) rfl ⟨rfl, rfl⟩ ⟨Nat.le_of_ble_eq_true rfl, Nat.le_of_ble_eq_true rfl⟩ rfl ⟨Nat.zero_le _, Nat.zero_le _⟩ rfl (Nat.le_of_ble_eq_true rfl) dX8_piece_2 (fun H locs hw => ?_)
  refine lv_if_eq (tgt := 14) C.1 C.2.1 dX8_piece_5 (by decide) (fun hc => ?_) (fun hc => ?_)
  · replace hf := ifp hf hc
    refine r_aload0 C hl 0 rfl dX8_piece_14 ?_
    refine r_iload0 C hl 1 rfl dX8_piece_15 ?_
    obtain ⟨u2, e2, hf⟩ := bx hf
    refine r_callVv (ws' := (mO G am as_ ar ac an ath ah m_am ++ (sO G as_ s_as_ ++ (cO G ac u2 ++ (tO G an t_an ++ []))))) (As := [.int x1]) (rest := []) C hw hl.1 kX8_cutData ml_X8_154 (c_X8_cutData l G am as_ ar ac an ath ah _ m_am c_ac t_an x1 u2 e2) (CutX.take mO_f (CutX.skip (CutX.take cO_f (CutX.take tO_f CutX.none)))) _ (gx_h mO_o) rfl ⟨rfl, rfl⟩ ⟨Nat.le_of_ble_eq_true rfl, Nat.le_of_ble_eq_true rfl⟩ rfl ⟨Nat.zero_le _, Nat.zero_le _⟩ rfl (Nat.le_of_ble_eq_true rfl) dX8_piece_16 (fun H locs hw => ?_)
    refine r_iload0 C hl 2 rfl dX8_piece_19 ?_
    refine lv_if_lt (tgt := 34) C.1 C.2.1 dX8_piece_20 (by decide) (fun hc => ?_) (fun hc => ?_)
    · replace hf := ifp hf hc
      exact hB_34  m_am u2 hf _ _ hw _ (lv_sub hl [0] rfl)
    · replace hf := ifn hf hc
      refine r_iload0 C hl 2 rfl dX8_piece_23 ?_
      refine r_aload0 C hl 0 rfl dX8_piece_24 ?_
      refine r_get C hw _ (gx_h mO_o) 8 fl_X8_30 rfl dX8_piece_25 ?_
      refine r_get C hw _ (gx_t (gx_t (gx_h cO_o))) 7 fl_X8_157 rfl dX8_piece_28 ?_
      refine lv_icmp_lt (tgt := 40) C.1 C.2.1 dX8_piece_31 (by decide) (fun hc => ?_) (fun hc => ?_)
      · replace hf := ifp hf hc
        refine r_iload0 C hl 3 rfl dX8_piece_40 ?_
        rcases Decidable.em (x3 = 0) with hc | h0_
        · replace hf := ifp hf hc
          refine lv_tableIn (tgt := 72) C.1 C.2.1 dX8_piece_41 (by rw [hc]; decide) (by rw [hc]; decide) (by rw [hc]; rfl) (by decide) ?_
          refine r_aload0 C hl 0 rfl dX8_piece_72 ?_
          refine r_aload0 C hl 0 rfl dX8_piece_73 ?_
          refine r_get C hw _ (gx_h mO_o) 8 fl_X8_30 rfl dX8_piece_74 ?_
          refine r_get C hw _ (gx_t (gx_t (gx_h cO_o))) 3 fl_X8_160 rfl dX8_piece_77 ?_
          refine r_iload0 C hl 2 rfl dX8_piece_80 ?_
          obtain ⟨v11_, e11, hf⟩ := bx hf
          refine r_iald C hw _ (gx_t (gx_t (gx_h cO_g3))) e11 dX8_piece_81 ?_
          obtain ⟨u12, e12, hf⟩ := bx hf
          refine r_callVi (ws' := (mO G am as_ ar ac an ath ah u12.2 ++ (sO G as_ s_as_ ++ (cO G ac u2 ++ (tO G an t_an ++ []))))) (As := [.int v11_]) (rest := []) C hw hl.1 kX8_answer ml_X8_99 (c_X8_answer l G am as_ ar ac an ath ah _ m_am v11_ u12 e12) (CutX.take mO_f CutX.none) _ (gx_h mO_o) rfl ⟨rfl, rfl⟩ ⟨Nat.le_of_ble_eq_true rfl, Nat.le_of_ble_eq_true rfl⟩ rfl ⟨Nat.zero_le _, Nat.zero_le _⟩ rfl (Nat.le_of_ble_eq_true rfl) dX8_piece_82 (fun H locs hw => ?_)
          exact fin_i C hw (Option.some.inj hf) (fun o => o.1) (fun o => (mO G am as_ ar ac an ath ah o.2.1 ++ (sO G as_ s_as_ ++ (cO G ac o.2.2 ++ (tO G an t_an ++ []))))) rfl rfl dX8_piece_85
        replace hf := ifn hf h0_
        rcases Decidable.em (x3 = 1) with hc | h1_
        · replace hf := ifp hf hc
          refine lv_tableIn (tgt := 86) C.1 C.2.1 dX8_piece_41 (by rw [hc]; decide) (by rw [hc]; decide) (by rw [hc]; rfl) (by decide) ?_
          refine r_aload0 C hl 0 rfl dX8_piece_86 ?_
          refine r_aload0 C hl 0 rfl dX8_piece_87 ?_
          refine r_get C hw _ (gx_h mO_o) 8 fl_X8_30 rfl dX8_piece_88 ?_
          refine r_get C hw _ (gx_t (gx_t (gx_h cO_o))) 4 fl_X8_163 rfl dX8_piece_91 ?_
          refine r_iload0 C hl 2 rfl dX8_piece_94 ?_
          obtain ⟨v9_, e9, hf⟩ := bx hf
          refine r_iald C hw _ (gx_t (gx_t (gx_h cO_g4))) e9 dX8_piece_95 ?_
          obtain ⟨u10, e10, hf⟩ := bx hf
          refine r_callVi (ws' := (mO G am as_ ar ac an ath ah u10.2 ++ (sO G as_ s_as_ ++ (cO G ac u2 ++ (tO G an t_an ++ []))))) (As := [.int v9_]) (rest := []) C hw hl.1 kX8_answer ml_X8_99 (c_X8_answer l G am as_ ar ac an ath ah _ m_am v9_ u10 e10) (CutX.take mO_f CutX.none) _ (gx_h mO_o) rfl ⟨rfl, rfl⟩ ⟨Nat.le_of_ble_eq_true rfl, Nat.le_of_ble_eq_true rfl⟩ rfl ⟨Nat.zero_le _, Nat.zero_le _⟩ rfl (Nat.le_of_ble_eq_true rfl) dX8_piece_96 (fun H locs hw => ?_)
          exact fin_i C hw (Option.some.inj hf) (fun o => o.1) (fun o => (mO G am as_ ar ac an ath ah o.2.1 ++ (sO G as_ s_as_ ++ (cO G ac o.2.2 ++ (tO G an t_an ++ []))))) rfl rfl dX8_piece_99
        replace hf := ifn hf h1_
        rcases Decidable.em (x3 = 2) with hc | h2_
        · replace hf := ifp hf hc
          refine lv_tableIn (tgt := 100) C.1 C.2.1 dX8_piece_41 (by rw [hc]; decide) (by rw [hc]; decide) (by rw [hc]; rfl) (by decide) ?_
          refine r_aload0 C hl 0 rfl dX8_piece_100 ?_
          refine r_aload0 C hl 0 rfl dX8_piece_101 ?_
          refine r_get C hw _ (gx_h mO_o) 8 fl_X8_30 rfl dX8_piece_102 ?_
          refine r_get C hw _ (gx_t (gx_t (gx_h cO_o))) 5 fl_X8_166 rfl dX8_piece_105 ?_
          refine r_iload0 C hl 2 rfl dX8_piece_108 ?_
          obtain ⟨v7_, e7, hf⟩ := bx hf
          refine r_iald C hw _ (gx_t (gx_t (gx_h cO_g5))) e7 dX8_piece_109 ?_
          obtain ⟨u8, e8, hf⟩ := bx hf
          refine r_callVi (ws' := (mO G am as_ ar ac an ath ah u8.2 ++ (sO G as_ s_as_ ++ (cO G ac u2 ++ (tO G an t_an ++ []))))) (As := [.int v7_]) (rest := []) C hw hl.1 kX8_answer ml_X8_99 (c_X8_answer l G am as_ ar ac an ath ah _ m_am v7_ u8 e8) (CutX.take mO_f CutX.none) _ (gx_h mO_o) rfl ⟨rfl, rfl⟩ ⟨Nat.le_of_ble_eq_true rfl, Nat.le_of_ble_eq_true rfl⟩ rfl ⟨Nat.zero_le _, Nat.zero_le _⟩ rfl (Nat.le_of_ble_eq_true rfl) dX8_piece_110 (fun H locs hw => ?_)
          exact fin_i C hw (Option.some.inj hf) (fun o => o.1) (fun o => (mO G am as_ ar ac an ath ah o.2.1 ++ (sO G as_ s_as_ ++ (cO G ac o.2.2 ++ (tO G an t_an ++ []))))) rfl rfl dX8_piece_113
        replace hf := ifn hf h2_
        rcases Decidable.em (x3 = 3) with hc | h3_
        · replace hf := ifp hf hc
          refine lv_tableIn (tgt := 114) C.1 C.2.1 dX8_piece_41 (by rw [hc]; decide) (by rw [hc]; decide) (by rw [hc]; rfl) (by decide) ?_
          refine r_aload0 C hl 0 rfl dX8_piece_114 ?_
          refine r_aload0 C hl 0 rfl dX8_piece_115 ?_
          refine r_get C hw _ (gx_h mO_o) 8 fl_X8_30 rfl dX8_piece_116 ?_
          refine r_get C hw _ (gx_t (gx_t (gx_h cO_o))) 6 fl_X8_169 rfl dX8_piece_119 ?_
          refine r_iload0 C hl 2 rfl dX8_piece_122 ?_
          obtain ⟨v5_, e5, hf⟩ := bx hf
          refine r_iald C hw _ (gx_t (gx_t (gx_h cO_g6))) e5 dX8_piece_123 ?_
          obtain ⟨u6, e6, hf⟩ := bx hf
          refine r_callVi (ws' := (mO G am as_ ar ac an ath ah u6.2 ++ (sO G as_ s_as_ ++ (cO G ac u2 ++ (tO G an t_an ++ []))))) (As := [.int v5_]) (rest := []) C hw hl.1 kX8_answer ml_X8_99 (c_X8_answer l G am as_ ar ac an ath ah _ m_am v5_ u6 e6) (CutX.take mO_f CutX.none) _ (gx_h mO_o) rfl ⟨rfl, rfl⟩ ⟨Nat.le_of_ble_eq_true rfl, Nat.le_of_ble_eq_true rfl⟩ rfl ⟨Nat.zero_le _, Nat.zero_le _⟩ rfl (Nat.le_of_ble_eq_true rfl) dX8_piece_124 (fun H locs hw => ?_)
          exact fin_i C hw (Option.some.inj hf) (fun o => o.1) (fun o => (mO G am as_ ar ac an ath ah o.2.1 ++ (sO G as_ s_as_ ++ (cO G ac o.2.2 ++ (tO G an t_an ++ []))))) rfl rfl dX8_piece_127
        replace hf := ifn hf h3_
        refine lv_tableOut (tgt := 128) C.1 C.2.1 dX8_piece_41 (sw_out4 h0_ h1_ h2_ h3_) (by decide) ?_
        refine r_aload0 C hl 0 rfl dX8_piece_128 ?_
        refine lv_iconst (v := 1) C.1 C.2.1 dX8_piece_129 (by decide) ?_
        obtain ⟨u4, e4, hf⟩ := bx hf
        refine r_callVi (ws' := (mO G am as_ ar ac an ath ah u4.2 ++ (sO G as_ s_as_ ++ (cO G ac u2 ++ (tO G an t_an ++ []))))) (As := [.int 1]) (rest := []) C hw hl.1 kX8_refuse ml_X8_63 (c_X8_refuse l G am as_ ar ac an ath ah _ m_am 1 u4 e4) (CutX.take mO_f CutX.none) _ (gx_h mO_o) rfl ⟨rfl, rfl⟩ ⟨Nat.le_of_ble_eq_true rfl, Nat.le_of_ble_eq_true rfl⟩ rfl ⟨Nat.zero_le _, Nat.zero_le _⟩ rfl (Nat.le_of_ble_eq_true rfl) dX8_piece_130 (fun H locs hw => ?_)
        exact fin_i C hw (Option.some.inj hf) (fun o => o.1) (fun o => (mO G am as_ ar ac an ath ah o.2.1 ++ (sO G as_ s_as_ ++ (cO G ac o.2.2 ++ (tO G an t_an ++ []))))) rfl rfl dX8_piece_133
      · replace hf := ifn hf hc
        exact hB_34  m_am u2 hf _ _ hw _ (lv_sub hl [0] rfl)
  · replace hf := ifn hf hc
    refine r_aload0 C hl 0 rfl dX8_piece_8 ?_
    refine lv_iconst (v := 1) C.1 C.2.1 dX8_piece_9 (by decide) ?_
    obtain ⟨u13, e13, hf⟩ := bx hf
    refine r_callVi (ws' := (mO G am as_ ar ac an ath ah u13.2 ++ (sO G as_ s_as_ ++ (cO G ac c_ac ++ (tO G an t_an ++ []))))) (As := [.int 1]) (rest := []) C hw hl.1 kX8_refuse ml_X8_63 (c_X8_refuse l G am as_ ar ac an ath ah _ m_am 1 u13 e13) (CutX.take mO_f CutX.none) _ (gx_h mO_o) rfl ⟨rfl, rfl⟩ ⟨Nat.le_of_ble_eq_true rfl, Nat.le_of_ble_eq_true rfl⟩ rfl ⟨Nat.zero_le _, Nat.zero_le _⟩ rfl (Nat.le_of_ble_eq_true rfl) dX8_piece_10 (fun H locs hw => ?_)
    exact fin_i C hw (Option.some.inj hf) (fun o => o.1) (fun o => (mO G am as_ ar ac an ath ah o.2.1 ++ (sO G as_ s_as_ ++ (cO G ac o.2.2 ++ (tO G an t_an ++ []))))) rfl rfl dX8_piece_13
set_option maxHeartbeats 4000000 in
set_option maxRecDepth 100000 in
theorem c_X8_fewest (l : Launch) (G : GG) (am : Nat → Nat) (as_ : Nat → Nat) (ar : Nat → Nat) (ac : Nat → Nat) (an : Nat → Nat) (ath : Nat → Nat) (ah : Nat → Nat) (sz : Nat) (m_am : Pic) (s_as_ : Pic) (c_ac : Pic) (t_an : Pic) (x1 : Int32) (out : Int32 × Pic × Pic) (hf : f_X8_fewest m_am s_as_ c_ac t_an x1 = some out) : Met l yX8_fewest (.code yX8_fewest cX8_fewest 2 (some .int) :: BT) ({ frames := 4, cells := 0, slots := 0, locals := 95 }) (va_Pc [.ref (am 99), .int x1] (PreW G sz (mO G am as_ ar ac an ath ah m_am ++ (sO G as_ s_as_ ++ (cO G ac c_ac ++ (tO G an t_an ++ [])))))) (Ans G out.1 (va_A (mO G am as_ ar ac an ath ah m_am ++ (sO G as_ s_as_ ++ (cO G ac c_ac ++ (tO G an t_an ++ [])))) sz) (mO G am as_ ar ac an ath ah out.2.1 ++ (sO G as_ s_as_ ++ (cO G ac out.2.2 ++ (tO G an t_an ++ []))))) 0 0 (va_A (mO G am as_ ar ac an ath ah m_am ++ (sO G as_ s_as_ ++ (cO G ac c_ac ++ (tO G an t_an ++ [])))) sz) := by
  refine Met.into (by decide) (Nat.le_of_ble_eq_true rfl) ?_
  intro p e s m below meth c C hsz ls hl hw
  have hl : lv_has ls 2 [(0, .ref (am 99)), (1, .int x1)] := hl
  clear hsz
  generalize va_A (mO G am as_ ar ac an ath ah m_am ++ (sO G as_ s_as_ ++ (cO G ac c_ac ++ (tO G an t_an ++ [])))) sz = A at hw ⊢
  unfold f_X8_fewest at hf
  refine r_aload0 C hl 0 rfl dX8_fewest_0 ?_
  refine r_iload0 C hl 1 rfl dX8_fewest_1 ?_
  obtain ⟨u1, e1, hf⟩ := bx hf
  refine r_callVi (ws' := (mO G am as_ ar ac an ath ah m_am ++ (sO G as_ s_as_ ++ (cO G ac c_ac ++ (tO G an t_an ++ []))))) (As := [.int x1]) (rest := []) C hw hl.1 kX8_noData ml_X8_141 (c_X8_noData l G am as_ ar ac an ath ah _ m_am s_as_ x1 u1 e1) (CutX.take mO_f (CutX.take sO_f CutX.none)) _ (gx_h mO_o) rfl ⟨rfl, rfl⟩ ⟨Nat.le_of_ble_eq_true rfl, Nat.le_of_ble_eq_true rfl⟩ rfl ⟨Nat.zero_le _, Nat.zero_le _⟩ rfl (Nat.le_of_ble_eq_true rfl) dX8_fewest_2 (fun H locs hw => ?_)
  refine lv_if_eq (tgt := 14) C.1 C.2.1 dX8_fewest_5 (by decide) (fun hc => ?_) (fun hc => ?_)
  · replace hf := ifp hf hc
    refine r_aload0 C hl 0 rfl dX8_fewest_14 ?_
    refine r_get C hw _ (gx_h mO_o) 8 fl_X8_30 rfl dX8_fewest_15 ?_
    refine r_aload0 C hl 0 rfl dX8_fewest_18 ?_
    refine r_get C hw _ (gx_h mO_o) 9 fl_X8_37 rfl dX8_fewest_19 ?_
    refine r_get C hw _ (gx_t (gx_t (gx_t (gx_h tO_o)))) 0 fl_X8_148 rfl dX8_fewest_22 ?_
    refine r_iload0 C hl 1 rfl dX8_fewest_25 ?_
    refine lv_bipush (v := 16) C.1 C.2.1 dX8_fewest_26 (by decide) ?_
    refine lv_imul C.1 C.2.1 dX8_fewest_28 ?_
    obtain ⟨u2, e2, hf⟩ := bx hf
    refine r_callVv (ws' := (mO G am as_ ar ac an ath ah m_am ++ (sO G as_ s_as_ ++ (cO G ac u2 ++ (tO G an t_an ++ []))))) (As := [.ref (an 200), .int (x1 * 16)]) (rest := []) C hw hl.1 kX1_measure ml_X8_172 (c_X1_measure l G ac an _ c_ac t_an (x1 * 16) u2 e2) (CutX.mk (isC := [7, 8, 9, 10, 11, 12, 13, 14, 16]) (isR := [0, 1, 2, 3, 4, 5, 6, 15, 17]) 18 (by decide) rfl rfl rfl rfl (by decide) rfl) _ (gx_t (gx_t (gx_h cO_o))) rfl ⟨rfl, rfl⟩ ⟨Nat.le_of_ble_eq_true rfl, Nat.le_of_ble_eq_true rfl⟩ rfl ⟨Nat.zero_le _, Nat.zero_le _⟩ rfl (Nat.le_of_ble_eq_true rfl) dX8_fewest_29 (fun H locs hw => ?_)
    refine r_aload0 C hl 0 rfl dX8_fewest_32 ?_
    refine r_aload0 C hl 0 rfl dX8_fewest_33 ?_
    refine r_get C hw _ (gx_h mO_o) 8 fl_X8_30 rfl dX8_fewest_34 ?_
    refine r_get C hw _ (gx_t (gx_t (gx_h cO_o))) 2 fl_X8_176 rfl dX8_fewest_37 ?_
    refine lv_iconst (v := 0) C.1 C.2.1 dX8_fewest_40 (by decide) ?_
    obtain ⟨v3_, e3, hf⟩ := bx hf
    refine r_iald C hw _ (gx_t (gx_t (gx_h cO_g2))) e3 dX8_fewest_41 ?_
    obtain ⟨u4, e4, hf⟩ := bx hf
    refine r_callVi (ws' := (mO G am as_ ar ac an ath ah u4.2 ++ (sO G as_ s_as_ ++ (cO G ac u2 ++ (tO G an t_an ++ []))))) (As := [.int v3_]) (rest := []) C hw hl.1 kX8_answer ml_X8_99 (c_X8_answer l G am as_ ar ac an ath ah _ m_am v3_ u4 e4) (CutX.take mO_f CutX.none) _ (gx_h mO_o) rfl ⟨rfl, rfl⟩ ⟨Nat.le_of_ble_eq_true rfl, Nat.le_of_ble_eq_true rfl⟩ rfl ⟨Nat.zero_le _, Nat.zero_le _⟩ rfl (Nat.le_of_ble_eq_true rfl) dX8_fewest_42 (fun H locs hw => ?_)
    exact fin_i C hw (Option.some.inj hf) (fun o => o.1) (fun o => (mO G am as_ ar ac an ath ah o.2.1 ++ (sO G as_ s_as_ ++ (cO G ac o.2.2 ++ (tO G an t_an ++ []))))) rfl rfl dX8_fewest_45
  · replace hf := ifn hf hc
    refine r_aload0 C hl 0 rfl dX8_fewest_8 ?_
    refine lv_iconst (v := 1) C.1 C.2.1 dX8_fewest_9 (by decide) ?_
    obtain ⟨u5, e5, hf⟩ := bx hf
    refine r_callVi (ws' := (mO G am as_ ar ac an ath ah u5.2 ++ (sO G as_ s_as_ ++ (cO G ac c_ac ++ (tO G an t_an ++ []))))) (As := [.int 1]) (rest := []) C hw hl.1 kX8_refuse ml_X8_63 (c_X8_refuse l G am as_ ar ac an ath ah _ m_am 1 u5 e5) (CutX.take mO_f CutX.none) _ (gx_h mO_o) rfl ⟨rfl, rfl⟩ ⟨Nat.le_of_ble_eq_true rfl, Nat.le_of_ble_eq_true rfl⟩ rfl ⟨Nat.zero_le _, Nat.zero_le _⟩ rfl (Nat.le_of_ble_eq_true rfl) dX8_fewest_10 (fun H locs hw => ?_)
    exact fin_i C hw (Option.some.inj hf) (fun o => o.1) (fun o => (mO G am as_ ar ac an ath ah o.2.1 ++ (sO G as_ s_as_ ++ (cO G ac o.2.2 ++ (tO G an t_an ++ []))))) rfl rfl dX8_fewest_13
set_option maxHeartbeats 4000000 in
set_option maxRecDepth 100000 in
theorem c_X8_rest (l : Launch) (G : GG) (am : Nat → Nat) (as_ : Nat → Nat) (ar : Nat → Nat) (ac : Nat → Nat) (an : Nat → Nat) (ath : Nat → Nat) (ah : Nat → Nat) (sz : Nat) (m_am : Pic) (s_as_ : Pic) (c_ac : Pic) (t_an : Pic) (x1 x2 : Int32) (out : Int32 × Pic × Pic) (hf : f_X8_rest m_am s_as_ c_ac t_an x1 x2 = some out) : Met l yX8_rest (.code yX8_rest cX8_rest 3 (some .int) :: BT) ({ frames := 4, cells := 0, slots := 0, locals := 95 }) (va_Pc [.ref (am 99), .int x1, .int x2] (PreW G sz (mO G am as_ ar ac an ath ah m_am ++ (sO G as_ s_as_ ++ (cO G ac c_ac ++ (tO G an t_an ++ [])))))) (Ans G out.1 (va_A (mO G am as_ ar ac an ath ah m_am ++ (sO G as_ s_as_ ++ (cO G ac c_ac ++ (tO G an t_an ++ [])))) sz) (mO G am as_ ar ac an ath ah out.2.1 ++ (sO G as_ s_as_ ++ (cO G ac out.2.2 ++ (tO G an t_an ++ []))))) 0 0 (va_A (mO G am as_ ar ac an ath ah m_am ++ (sO G as_ s_as_ ++ (cO G ac c_ac ++ (tO G an t_an ++ [])))) sz) := by
  refine Met.into (by decide) (Nat.le_of_ble_eq_true rfl) ?_
  intro p e s m below meth c C hsz ls hl hw
  have hl : lv_has ls 3 [(0, .ref (am 99)), (1, .int x1), (2, .int x2)] := hl
  clear hsz
  generalize va_A (mO G am as_ ar ac an ath ah m_am ++ (sO G as_ s_as_ ++ (cO G ac c_ac ++ (tO G an t_an ++ [])))) sz = A at hw ⊢
  have hB_15 : ∀ (m_am : Pic) (c_ac : Pic), b_X8_rest_15 s_as_ t_an x1 x2  m_am c_ac = some out → ∀ (H : Heap) (locs : List Loc), Wd G A s H locs (mO G am as_ ar ac an ath ah m_am ++ (sO G as_ s_as_ ++ (cO G ac c_ac ++ (tO G an t_an ++ [])))) → ∀ ls : Array Slot, lv_has ls 3 [(0, .ref (am 99))] → W p l e ({ frames := 4, cells := 0, slots := 0, locals := 95 }) s m [.ref (am 99), .int x1, .int x2].toArray below meth c H locs 0 0 (MQ below (Ans G out.1 A (mO G am as_ ar ac an ath ah out.2.1 ++ (sO G as_ s_as_ ++ (cO G ac out.2.2 ++ (tO G an t_an ++ []))))) [.ref (am 99), .int x1, .int x2].toArray s 0 0 A) (F0 m 15 ls []) := by
    intro m_am c_ac hf H locs hw ls hl
    unfold b_X8_rest_15 at hf
    refine r_aload0 C hl 0 rfl dX8_rest_15 ?_
    refine lv_iconst (v := 1) C.1 C.2.1 dX8_rest_16 (by decide) ?_
    obtain ⟨u2, e2, hf⟩ := bx hf
    refine r_callVi (ws' := (mO G am as_ ar ac an ath ah u2.2 ++ (sO G as_ s_as_ ++ (cO G ac c_ac ++ (tO G an t_an ++ []))))) (As := [.int 1]) (rest := []) C hw hl.1 kX8_refuse ml_X8_63 (c_X8_refuse l G am as_ ar ac an ath ah _ m_am 1 u2 e2) (CutX.take mO_f CutX.none) _ (gx_h mO_o) rfl ⟨rfl, rfl⟩ ⟨Nat.le_of_ble_eq_true rfl, Nat.le_of_ble_eq_true rfl⟩ rfl ⟨Nat.zero_le _, Nat.zero_le _⟩ rfl (Nat.le_of_ble_eq_true rfl) dX8_rest_17 (fun H locs hw => ?_)
    exact fin_i C hw (Option.some.inj hf) (fun o => o.1) (fun o => (mO G am as_ ar ac an ath ah o.2.1 ++ (sO G as_ s_as_ ++ (cO G ac o.2.2 ++ (tO G an t_an ++ []))))) rfl rfl dX8_rest_20
  unfold f_X8_rest at hf
  refine r_aload0 C hl 0 rfl dX8_rest_0 ?_
  refine r_iload0 C hl 1 rfl dX8_rest_1 ?_
  obtain ⟨u1, e1, hf⟩ := bx hf
  refine r_callVi (ws' := (mO G am as_ ar ac an ath ah m_am ++ (sO G as_ s_as_ ++ (cO G ac c_ac ++ (tO G an t_an ++ []))))) (As := [.int x1]) (rest := []) C hw hl.1 kX8_noData ml_X8_141 (c_X8_noData l G am as_ ar ac an ath ah _ m_am s_as_ x1 u1 e1) (CutX.take mO_f (CutX.take sO_f CutX.none)) _ (gx_h mO_o) rfl ⟨rfl, rfl⟩ ⟨Nat.le_of_ble_eq_true rfl, Nat.le_of_ble_eq_true rfl⟩ rfl ⟨Nat.zero_le _, Nat.zero_le _⟩ rfl (Nat.le_of_ble_eq_true rfl) dX8_rest_2 (fun H locs hw => ?_)
  refine lv_if_ne (tgt := 15) C.1 C.2.1 dX8_rest_5 (by decide) (fun hc => ?_) (fun hc => ?_)
  · replace hf := ifn hf hc
    exact hB_15  m_am c_ac hf _ _ hw _ (lv_sub hl [0] rfl)
  · replace hf := ifp hf hc
    refine r_iload0 C hl 2 rfl dX8_rest_8 ?_
    obtain ⟨u3, e3, hf⟩ := bx hf
    refine r_callSi (ws' := (mO G am as_ ar ac an ath ah m_am ++ (sO G as_ s_as_ ++ (cO G ac c_ac ++ (tO G an t_an ++ []))))) (As := [.int x2]) (rest := []) C hw hl.1 kX8_noCell ml_X8_145 (c_X8_noCell l G _ x2 u3 e3) CutX.none ⟨rfl, rfl⟩ ⟨Nat.le_of_ble_eq_true rfl, Nat.le_of_ble_eq_true rfl⟩ rfl ⟨Nat.zero_le _, Nat.zero_le _⟩ rfl (Nat.le_of_ble_eq_true rfl) dX8_rest_9 (fun H locs hw => ?_)
    refine lv_if_eq (tgt := 21) C.1 C.2.1 dX8_rest_12 (by decide) (fun hc => ?_) (fun hc => ?_)
    · replace hf := ifp hf hc
      refine r_aload0 C hl 0 rfl dX8_rest_21 ?_
      refine r_get C hw _ (gx_h mO_o) 8 fl_X8_30 rfl dX8_rest_22 ?_
      refine r_aload0 C hl 0 rfl dX8_rest_25 ?_
      refine r_get C hw _ (gx_h mO_o) 9 fl_X8_37 rfl dX8_rest_26 ?_
      refine r_get C hw _ (gx_t (gx_t (gx_t (gx_h tO_o)))) 0 fl_X8_148 rfl dX8_rest_29 ?_
      refine r_iload0 C hl 1 rfl dX8_rest_32 ?_
      refine lv_bipush (v := 16) C.1 C.2.1 dX8_rest_33 (by decide) ?_
      refine lv_imul C.1 C.2.1 dX8_rest_35 ?_
      obtain ⟨u4, e4, hf⟩ := bx hf
      refine r_callVv (ws' := (mO G am as_ ar ac an ath ah m_am ++ (sO G as_ s_as_ ++ (cO G ac u4 ++ (tO G an t_an ++ []))))) (As := [.ref (an 200), .int (x1 * 16)]) (rest := []) C hw hl.1 kX1_measure ml_X8_172 (c_X1_measure l G ac an _ c_ac t_an (x1 * 16) u4 e4) (CutX.mk (isC := [7, 8, 9, 10, 11, 12, 13, 14, 16]) (isR := [0, 1, 2, 3, 4, 5, 6, 15, 17]) 18 (by decide) rfl rfl rfl rfl (by decide) rfl) _ (gx_t (gx_t (gx_h cO_o))) rfl ⟨rfl, rfl⟩ ⟨Nat.le_of_ble_eq_true rfl, Nat.le_of_ble_eq_true rfl⟩ rfl ⟨Nat.zero_le _, Nat.zero_le _⟩ rfl (Nat.le_of_ble_eq_true rfl) dX8_rest_36 (fun H locs hw => ?_)
      refine r_aload0 C hl 0 rfl dX8_rest_39 ?_
      refine r_aload0 C hl 0 rfl dX8_rest_40 ?_
      refine r_get C hw _ (gx_h mO_o) 8 fl_X8_30 rfl dX8_rest_41 ?_
      refine r_get C hw _ (gx_t (gx_t (gx_h cO_o))) 1 fl_X8_179 rfl dX8_rest_44 ?_
      refine r_iload0 C hl 2 rfl dX8_rest_47 ?_
      obtain ⟨v5_, e5, hf⟩ := bx hf
      refine r_iald C hw _ (gx_t (gx_t (gx_h cO_g1))) e5 dX8_rest_48 ?_
      obtain ⟨u6, e6, hf⟩ := bx hf
      refine r_callVi (ws' := (mO G am as_ ar ac an ath ah u6.2 ++ (sO G as_ s_as_ ++ (cO G ac u4 ++ (tO G an t_an ++ []))))) (As := [.int v5_]) (rest := []) C hw hl.1 kX8_answer ml_X8_99 (c_X8_answer l G am as_ ar ac an ath ah _ m_am v5_ u6 e6) (CutX.take mO_f CutX.none) _ (gx_h mO_o) rfl ⟨rfl, rfl⟩ ⟨Nat.le_of_ble_eq_true rfl, Nat.le_of_ble_eq_true rfl⟩ rfl ⟨Nat.zero_le _, Nat.zero_le _⟩ rfl (Nat.le_of_ble_eq_true rfl) dX8_rest_49 (fun H locs hw => ?_)
      exact fin_i C hw (Option.some.inj hf) (fun o => o.1) (fun o => (mO G am as_ ar ac an ath ah o.2.1 ++ (sO G as_ s_as_ ++ (cO G ac o.2.2 ++ (tO G an t_an ++ []))))) rfl rfl dX8_rest_52
    · replace hf := ifn hf hc
      exact hB_15  m_am c_ac hf _ _ hw _ (lv_sub hl [0] rfl)
set_option maxHeartbeats 4000000 in
set_option maxRecDepth 100000 in
theorem c_X8_ranked (l : Launch) (G : GG) (am : Nat → Nat) (as_ : Nat → Nat) (ar : Nat → Nat) (ac : Nat → Nat) (an : Nat → Nat) (ath : Nat → Nat) (ah : Nat → Nat) (sz : Nat) (m_am : Pic) (s_as_ : Pic) (t_an : Pic) (x1 : Int32) (out : Int32 × Pic) (hf : f_X8_ranked m_am s_as_ t_an x1 = some out) : Met l yX8_ranked (.code yX8_ranked cX8_ranked 3 (some .int) :: BT) ({ frames := 1, cells := 0, slots := 0, locals := 24 }) (va_Pc [.ref (am 99), .int x1] (PreW G sz (mO G am as_ ar ac an ath ah m_am ++ (sO G as_ s_as_ ++ (tO G an t_an ++ []))))) (Ans G out.1 (va_A (mO G am as_ ar ac an ath ah m_am ++ (sO G as_ s_as_ ++ (tO G an t_an ++ []))) sz) (mO G am as_ ar ac an ath ah out.2 ++ (sO G as_ s_as_ ++ (tO G an t_an ++ [])))) 0 0 (va_A (mO G am as_ ar ac an ath ah m_am ++ (sO G as_ s_as_ ++ (tO G an t_an ++ []))) sz) := by
  refine Met.into (by decide) (Nat.le_of_ble_eq_true rfl) ?_
  intro p e s m below meth c C hsz ls hl hw
  have hl : lv_has ls 3 [(0, .ref (am 99)), (1, .int x1)] := hl
  clear hsz
  generalize va_A (mO G am as_ ar ac an ath ah m_am ++ (sO G as_ s_as_ ++ (tO G an t_an ++ []))) sz = A at hw ⊢
  have hB_15 : ∀ (k15 : Pic → Int32 → Option (Int32 × Pic)) (hk15 : ∀ (m_am : Pic) (v2 : Int32), k15 m_am v2 = some out → ∀ (H : Heap) (locs : List Loc), Wd G A s H locs (mO G am as_ ar ac an ath ah m_am ++ (sO G as_ s_as_ ++ (tO G an t_an ++ []))) → ∀ ls : Array Slot, lv_has ls 3 [(0, .ref (am 99)), (1, .int x1), (2, .int v2)] → W p l e ({ frames := 1, cells := 0, slots := 0, locals := 24 }) s m [.ref (am 99), .int x1].toArray below meth c H locs 0 0 (MQ below (Ans G out.1 A (mO G am as_ ar ac an ath ah out.2 ++ (sO G as_ s_as_ ++ (tO G an t_an ++ [])))) [.ref (am 99), .int x1].toArray s 0 0 A) (F0 m 15 ls [])), ∀ (m_am : Pic) (v2 : Int32), b_X8_ranked_15 s_as_ t_an x1 k15 m_am v2 = some out → ∀ (H : Heap) (locs : List Loc), Wd G A s H locs (mO G am as_ ar ac an ath ah m_am ++ (sO G as_ s_as_ ++ (tO G an t_an ++ []))) → ∀ ls : Array Slot, lv_has ls 3 [(0, .ref (am 99)), (1, .int x1), (2, .int v2)] → W p l e ({ frames := 1, cells := 0, slots := 0, locals := 24 }) s m [.ref (am 99), .int x1].toArray below meth c H locs 0 0 (MQ below (Ans G out.1 A (mO G am as_ ar ac an ath ah out.2 ++ (sO G as_ s_as_ ++ (tO G an t_an ++ [])))) [.ref (am 99), .int x1].toArray s 0 0 A) (F0 m 15 ls []) := by
    intro k15 hk15 m_am v2 hf H locs hw ls hl
    unfold b_X8_ranked_15 at hf
    refine r_iload0 C hl 2 rfl dX8_ranked_15 ?_
    refine r_aload0 C hl 0 rfl dX8_ranked_16 ?_
    refine r_get C hw _ (gx_h mO_o) 6 fl_X8_16 rfl dX8_ranked_17 ?_
    refine r_get C hw _ (gx_t (gx_h sO_o)) 3 fl_X8_96 rfl dX8_ranked_20 ?_
    refine lv_icmp_ge (tgt := 47) C.1 C.2.1 dX8_ranked_23 (by decide) (fun hc => ?_) (fun hc => ?_)
    · replace hf := ifp hf hc
      refine r_aload0 C hl 0 rfl dX8_ranked_47 ?_
      refine lv_iconst (v := 1) C.1 C.2.1 dX8_ranked_48 (by decide) ?_
      obtain ⟨u1, e1, hf⟩ := bx hf
      refine r_callVi (ws' := (mO G am as_ ar ac an ath ah u1.2 ++ (sO G as_ s_as_ ++ (tO G an t_an ++ [])))) (As := [.int 1]) (rest := []) C hw hl.1 kX8_refuse ml_X8_63 (c_X8_refuse l G am as_ ar ac an ath ah _ m_am 1 u1 e1) (CutX.take mO_f CutX.none) _ (gx_h mO_o) rfl ⟨rfl, rfl⟩ ⟨Nat.le_of_ble_eq_true rfl, Nat.le_of_ble_eq_true rfl⟩ rfl ⟨Nat.zero_le _, Nat.zero_le _⟩ rfl (Nat.le_of_ble_eq_true rfl) dX8_ranked_49 (fun H locs hw => ?_)
      exact fin_i C hw (Option.some.inj hf) (fun o => o.1) (fun o => (mO G am as_ ar ac an ath ah o.2 ++ (sO G as_ s_as_ ++ (tO G an t_an ++ [])))) rfl rfl dX8_ranked_52
    · replace hf := ifn hf hc
      refine r_aload0 C hl 0 rfl dX8_ranked_26 ?_
      refine r_iload0 C hl 2 rfl dX8_ranked_27 ?_
      obtain ⟨u2, e2, hf⟩ := bx hf
      refine r_callVi (ws' := (mO G am as_ ar ac an ath ah m_am ++ (sO G as_ s_as_ ++ (tO G an t_an ++ [])))) (As := [.int v2]) (rest := []) C hw hl.1 kX8_rankOf ml_X8_182 (c_X8_rankOf l G am as_ ar ac an ath ah _ m_am s_as_ t_an v2 u2 e2) (CutX.take mO_f (CutX.take sO_f (CutX.take tO_f CutX.none))) _ (gx_h mO_o) rfl ⟨rfl, rfl⟩ ⟨Nat.le_of_ble_eq_true rfl, Nat.le_of_ble_eq_true rfl⟩ rfl ⟨Nat.zero_le _, Nat.zero_le _⟩ rfl (Nat.le_of_ble_eq_true rfl) dX8_ranked_28 (fun H locs hw => ?_)
      refine r_iload0 C hl 1 rfl dX8_ranked_31 ?_
      refine lv_icmp_ne (tgt := 41) C.1 C.2.1 dX8_ranked_32 (by decide) (fun hc => ?_) (fun hc => ?_)
      · replace hf := ifn hf hc
        refine r_iinc C hl 2 (v2 + 1) [(2, .int (v2 + 1)), (0, .ref (am 99)), (1, .int x1)] rfl (iinc_e (by decide)) (by decide) rfl dX8_ranked_41 (fun ls hl => ?_)
        refine lv_goto (tgt := 15) C.1 C.2.1 dX8_ranked_44 (by decide) ?_
        exact hk15 m_am (v2 + 1) hf _ _ hw _ (lv_sub hl [1, 2, 0] rfl)
      · replace hf := ifp hf hc
        refine r_aload0 C hl 0 rfl dX8_ranked_35 ?_
        refine r_iload0 C hl 2 rfl dX8_ranked_36 ?_
        obtain ⟨u3, e3, hf⟩ := bx hf
        refine r_callVi (ws' := (mO G am as_ ar ac an ath ah u3.2 ++ (sO G as_ s_as_ ++ (tO G an t_an ++ [])))) (As := [.int v2]) (rest := []) C hw hl.1 kX8_answer ml_X8_99 (c_X8_answer l G am as_ ar ac an ath ah _ m_am v2 u3 e3) (CutX.take mO_f CutX.none) _ (gx_h mO_o) rfl ⟨rfl, rfl⟩ ⟨Nat.le_of_ble_eq_true rfl, Nat.le_of_ble_eq_true rfl⟩ rfl ⟨Nat.zero_le _, Nat.zero_le _⟩ rfl (Nat.le_of_ble_eq_true rfl) dX8_ranked_37 (fun H locs hw => ?_)
        exact fin_i C hw (Option.some.inj hf) (fun o => o.1) (fun o => (mO G am as_ ar ac an ath ah o.2 ++ (sO G as_ s_as_ ++ (tO G an t_an ++ [])))) rfl rfl dX8_ranked_40
  have hL_15 : ∀ n : Nat, ∀ (m_am : Pic) (v2 : Int32), L_X8_ranked_15 s_as_ t_an x1  n m_am v2 = some out → ∀ (H : Heap) (locs : List Loc), Wd G A s H locs (mO G am as_ ar ac an ath ah m_am ++ (sO G as_ s_as_ ++ (tO G an t_an ++ []))) → ∀ ls : Array Slot, lv_has ls 3 [(0, .ref (am 99)), (1, .int x1), (2, .int v2)] → W p l e ({ frames := 1, cells := 0, slots := 0, locals := 24 }) s m [.ref (am 99), .int x1].toArray below meth c H locs 0 0 (MQ below (Ans G out.1 A (mO G am as_ ar ac an ath ah out.2 ++ (sO G as_ s_as_ ++ (tO G an t_an ++ [])))) [.ref (am 99), .int x1].toArray s 0 0 A) (F0 m 15 ls []) := by
    intro  n
    induction n with
    | zero => intro m_am v2 hf; cases hf
    | succ n ih => exact hB_15 _ ih
  unfold f_X8_ranked at hf
  refine r_aload0 C hl 0 rfl dX8_ranked_0 ?_
  refine r_get C hw _ (gx_h mO_o) 2 fl_X8_85 rfl dX8_ranked_1 ?_
  refine lv_if_ne (tgt := 13) C.1 C.2.1 dX8_ranked_4 (by decide) (fun hc => ?_) (fun hc => ?_)
  · replace hf := ifn hf hc
    refine lv_iconst (v := 0) C.1 C.2.1 dX8_ranked_13 (by decide) ?_
    refine r_istore0 C hl [(2, .int 0), (0, .ref (am 99)), (1, .int x1)] (by decide) rfl dX8_ranked_14 (fun ls hl => ?_)
    exact hL_15  FU m_am 0 hf _ _ hw _ (lv_sub hl [1, 2, 0] rfl)
  · replace hf := ifp hf hc
    refine r_aload0 C hl 0 rfl dX8_ranked_7 ?_
    refine lv_iconst (v := 1) C.1 C.2.1 dX8_ranked_8 (by decide) ?_
    obtain ⟨u4, e4, hf⟩ := bx hf
    refine r_callVi (ws' := (mO G am as_ ar ac an ath ah u4.2 ++ (sO G as_ s_as_ ++ (tO G an t_an ++ [])))) (As := [.int 1]) (rest := []) C hw hl.1 kX8_refuse ml_X8_63 (c_X8_refuse l G am as_ ar ac an ath ah _ m_am 1 u4 e4) (CutX.take mO_f CutX.none) _ (gx_h mO_o) rfl ⟨rfl, rfl⟩ ⟨Nat.le_of_ble_eq_true rfl, Nat.le_of_ble_eq_true rfl⟩ rfl ⟨Nat.zero_le _, Nat.zero_le _⟩ rfl (Nat.le_of_ble_eq_true rfl) dX8_ranked_9 (fun H locs hw => ?_)
    exact fin_i C hw (Option.some.inj hf) (fun o => o.1) (fun o => (mO G am as_ ar ac an ath ah o.2 ++ (sO G as_ s_as_ ++ (tO G an t_an ++ [])))) rfl rfl dX8_ranked_12
set_option maxHeartbeats 4000000 in
set_option maxRecDepth 100000 in
theorem c_X8_sort (l : Launch) (G : GG) (am : Nat → Nat) (as_ : Nat → Nat) (ar : Nat → Nat) (ac : Nat → Nat) (an : Nat → Nat) (ath : Nat → Nat) (ah : Nat → Nat) (sz : Nat) (m_am : Pic) (s_as_ : Pic) (t_an : Pic) (p_an : Pic) (x1 : Int32) (out : Int32 × Pic) (hf : f_X8_sort m_am s_as_ t_an p_an x1 = some out) : Met l yX8_sort (.code yX8_sort cX8_sort 3 (some .int) :: BT) ({ frames := 1, cells := 0, slots := 0, locals := 21 }) (va_Pc [.ref (am 99), .int x1] (PreW G sz (mO G am as_ ar ac an ath ah m_am ++ (sO G as_ s_as_ ++ (tO G an t_an ++ (pO G an p_an ++ [])))))) (Ans G out.1 (va_A (mO G am as_ ar ac an ath ah m_am ++ (sO G as_ s_as_ ++ (tO G an t_an ++ (pO G an p_an ++ [])))) sz) (mO G am as_ ar ac an ath ah out.2 ++ (sO G as_ s_as_ ++ (tO G an t_an ++ (pO G an p_an ++ []))))) 0 0 (va_A (mO G am as_ ar ac an ath ah m_am ++ (sO G as_ s_as_ ++ (tO G an t_an ++ (pO G an p_an ++ [])))) sz) := by
  refine Met.into (by decide) (Nat.le_of_ble_eq_true rfl) ?_
  intro p e s m below meth c C hsz ls hl hw
  have hl : lv_has ls 3 [(0, .ref (am 99)), (1, .int x1)] := hl
  clear hsz
  generalize va_A (mO G am as_ ar ac an ath ah m_am ++ (sO G as_ s_as_ ++ (tO G an t_an ++ (pO G an p_an ++ [])))) sz = A at hw ⊢
  have hB_57 : ∀ (m_am : Pic) (t0 : Int32), b_X8_sort_57 s_as_ t_an p_an x1  m_am t0 = some out → ∀ (H : Heap) (locs : List Loc), Wd G A s H locs (mO G am as_ ar ac an ath ah m_am ++ (sO G as_ s_as_ ++ (tO G an t_an ++ (pO G an p_an ++ [])))) → ∀ ls : Array Slot, lv_has ls 3 [] → W p l e ({ frames := 1, cells := 0, slots := 0, locals := 21 }) s m [.ref (am 99), .int x1].toArray below meth c H locs 0 0 (MQ below (Ans G out.1 A (mO G am as_ ar ac an ath ah out.2 ++ (sO G as_ s_as_ ++ (tO G an t_an ++ (pO G an p_an ++ []))))) [.ref (am 99), .int x1].toArray s 0 0 A) (F0 m 57 ls [.int t0, .ref (am 99)]) := by
    intro m_am t0 hf H locs hw ls hl
    unfold b_X8_sort_57 at hf
    obtain ⟨u4, e4, hf⟩ := bx hf
    refine r_callVi (ws' := (mO G am as_ ar ac an ath ah u4.2 ++ (sO G as_ s_as_ ++ (tO G an t_an ++ (pO G an p_an ++ []))))) (As := [.int t0]) (rest := []) C hw hl.1 kX8_answer ml_X8_99 (c_X8_answer l G am as_ ar ac an ath ah _ m_am t0 u4 e4) (CutX.take mO_f CutX.none) _ (gx_h mO_o) rfl ⟨rfl, rfl⟩ ⟨Nat.le_of_ble_eq_true rfl, Nat.le_of_ble_eq_true rfl⟩ rfl ⟨Nat.zero_le _, Nat.zero_le _⟩ rfl (Nat.le_of_ble_eq_true rfl) dX8_sort_57 (fun H locs hw => ?_)
    exact fin_i C hw (Option.some.inj hf) (fun o => o.1) (fun o => (mO G am as_ ar ac an ath ah o.2 ++ (sO G as_ s_as_ ++ (tO G an t_an ++ (pO G an p_an ++ []))))) rfl rfl dX8_sort_60
  unfold f_X8_sort at hf
  refine r_aload0 C hl 0 rfl dX8_sort_0 ?_
  refine r_iload0 C hl 1 rfl dX8_sort_1 ?_
  obtain ⟨u1, e1, hf⟩ := bx hf
  refine r_callVi (ws' := (mO G am as_ ar ac an ath ah m_am ++ (sO G as_ s_as_ ++ (tO G an t_an ++ (pO G an p_an ++ []))))) (As := [.int x1]) (rest := []) C hw hl.1 kX8_noData ml_X8_141 (c_X8_noData l G am as_ ar ac an ath ah _ m_am s_as_ x1 u1 e1) (CutX.take mO_f (CutX.take sO_f CutX.none)) _ (gx_h mO_o) rfl ⟨rfl, rfl⟩ ⟨Nat.le_of_ble_eq_true rfl, Nat.le_of_ble_eq_true rfl⟩ rfl ⟨Nat.zero_le _, Nat.zero_le _⟩ rfl (Nat.le_of_ble_eq_true rfl) dX8_sort_2 (fun H locs hw => ?_)
  refine lv_if_eq (tgt := 14) C.1 C.2.1 dX8_sort_5 (by decide) (fun hc => ?_) (fun hc => ?_)
  · replace hf := ifp hf hc
    refine r_aload0 C hl 0 rfl dX8_sort_14 ?_
    refine r_get C hw _ (gx_h mO_o) 9 fl_X8_37 rfl dX8_sort_15 ?_
    refine r_get C hw _ (gx_t (gx_t (gx_h tO_o))) 1 fl_X8_151 rfl dX8_sort_18 ?_
    refine r_iload0 C hl 1 rfl dX8_sort_21 ?_
    obtain ⟨v2_, e2, hf⟩ := bx hf
    refine r_iald C hw _ (gx_t (gx_t (gx_h tO_g1))) e2 dX8_sort_22 ?_
    refine r_istore0 C hl [(2, .int v2_), (0, .ref (am 99)), (1, .int x1)] (by decide) rfl dX8_sort_23 (fun ls hl => ?_)
    refine r_iload0 C hl 0 rfl dX8_sort_24 ?_
    obtain ⟨u3, e3, hf⟩ := bx hf
    refine r_callSi (ws' := (mO G am as_ ar ac an ath ah m_am ++ (sO G as_ s_as_ ++ (tO G an t_an ++ (pO G an p_an ++ []))))) (As := [.int v2_]) (rest := []) C hw hl.1 kX1_isWordSize ml_X8_185 (c_X1_isWordSize l G _ v2_ u3 e3) CutX.none ⟨rfl, rfl⟩ ⟨Nat.le_of_ble_eq_true rfl, Nat.le_of_ble_eq_true rfl⟩ rfl ⟨Nat.zero_le _, Nat.zero_le _⟩ rfl (Nat.le_of_ble_eq_true rfl) dX8_sort_25 (fun H locs hw => ?_)
    refine lv_if_eq (tgt := 37) C.1 C.2.1 dX8_sort_28 (by decide) (fun hc => ?_) (fun hc => ?_)
    · replace hf := ifp hf hc
      refine r_aload0 C hl 1 rfl dX8_sort_37 ?_
      refine r_iload0 C hl 0 rfl dX8_sort_38 ?_
      refine r_aload0 C hl 1 rfl dX8_sort_39 ?_
      refine r_get C hw _ (gx_h mO_o) 9 fl_X8_37 rfl dX8_sort_40 ?_
      refine r_get C hw _ (gx_t (gx_t (gx_h tO_o))) 2 fl_X8_105 rfl dX8_sort_43 ?_
      refine r_get C hw _ (gx_t (gx_t (gx_t (gx_h pO_o)))) 2 fl_X8_114 rfl dX8_sort_46 ?_
      refine lv_icmp_le (tgt := 56) C.1 C.2.1 dX8_sort_49 (by decide) (fun hc => ?_) (fun hc => ?_)
      · replace hf := ifp hf hc
        refine lv_iconst (v := 0) C.1 C.2.1 dX8_sort_56 (by decide) ?_
        exact hB_57  m_am 0 hf _ _ hw _ (lv_sub hl [] rfl)
      · replace hf := ifn hf hc
        refine lv_iconst (v := 2) C.1 C.2.1 dX8_sort_52 (by decide) ?_
        refine lv_goto (tgt := 57) C.1 C.2.1 dX8_sort_53 (by decide) ?_
        exact hB_57  m_am 2 hf _ _ hw _ (lv_sub hl [] rfl)
    · replace hf := ifn hf hc
      refine r_aload0 C hl 1 rfl dX8_sort_31 ?_
      refine lv_iconst (v := 1) C.1 C.2.1 dX8_sort_32 (by decide) ?_
      obtain ⟨u5, e5, hf⟩ := bx hf
      refine r_callVi (ws' := (mO G am as_ ar ac an ath ah u5.2 ++ (sO G as_ s_as_ ++ (tO G an t_an ++ (pO G an p_an ++ []))))) (As := [.int 1]) (rest := []) C hw hl.1 kX8_answer ml_X8_99 (c_X8_answer l G am as_ ar ac an ath ah _ m_am 1 u5 e5) (CutX.take mO_f CutX.none) _ (gx_h mO_o) rfl ⟨rfl, rfl⟩ ⟨Nat.le_of_ble_eq_true rfl, Nat.le_of_ble_eq_true rfl⟩ rfl ⟨Nat.zero_le _, Nat.zero_le _⟩ rfl (Nat.le_of_ble_eq_true rfl) dX8_sort_33 (fun H locs hw => ?_)
      exact fin_i C hw (Option.some.inj hf) (fun o => o.1) (fun o => (mO G am as_ ar ac an ath ah o.2 ++ (sO G as_ s_as_ ++ (tO G an t_an ++ (pO G an p_an ++ []))))) rfl rfl dX8_sort_36
  · replace hf := ifn hf hc
    refine r_aload0 C hl 0 rfl dX8_sort_8 ?_
    refine lv_iconst (v := 1) C.1 C.2.1 dX8_sort_9 (by decide) ?_
    obtain ⟨u6, e6, hf⟩ := bx hf
    refine r_callVi (ws' := (mO G am as_ ar ac an ath ah u6.2 ++ (sO G as_ s_as_ ++ (tO G an t_an ++ (pO G an p_an ++ []))))) (As := [.int 1]) (rest := []) C hw hl.1 kX8_refuse ml_X8_63 (c_X8_refuse l G am as_ ar ac an ath ah _ m_am 1 u6 e6) (CutX.take mO_f CutX.none) _ (gx_h mO_o) rfl ⟨rfl, rfl⟩ ⟨Nat.le_of_ble_eq_true rfl, Nat.le_of_ble_eq_true rfl⟩ rfl ⟨Nat.zero_le _, Nat.zero_le _⟩ rfl (Nat.le_of_ble_eq_true rfl) dX8_sort_10 (fun H locs hw => ?_)
    exact fin_i C hw (Option.some.inj hf) (fun o => o.1) (fun o => (mO G am as_ ar ac an ath ah o.2 ++ (sO G as_ s_as_ ++ (tO G an t_an ++ (pO G an p_an ++ []))))) rfl rfl dX8_sort_13
set_option maxHeartbeats 4000000 in
set_option maxRecDepth 100000 in
theorem c_X8_home (l : Launch) (G : GG) (am : Nat → Nat) (as_ : Nat → Nat) (ar : Nat → Nat) (ac : Nat → Nat) (an : Nat → Nat) (ath : Nat → Nat) (ah : Nat → Nat) (sz : Nat) (m_am : Pic) (t_an : Pic) (p_an : Pic) (x1 : Int32) (out : Int32 × Pic) (hf : f_X8_home m_am t_an p_an x1 = some out) : Met l yX8_home (.code yX8_home cX8_home 2 (some .int) :: BT) ({ frames := 1, cells := 0, slots := 0, locals := 21 }) (va_Pc [.ref (am 99), .int x1] (PreW G sz (mO G am as_ ar ac an ath ah m_am ++ (tO G an t_an ++ (pO G an p_an ++ []))))) (Ans G out.1 (va_A (mO G am as_ ar ac an ath ah m_am ++ (tO G an t_an ++ (pO G an p_an ++ []))) sz) (mO G am as_ ar ac an ath ah out.2 ++ (tO G an t_an ++ (pO G an p_an ++ [])))) 0 0 (va_A (mO G am as_ ar ac an ath ah m_am ++ (tO G an t_an ++ (pO G an p_an ++ []))) sz) := by
  refine Met.into (by decide) (Nat.le_of_ble_eq_true rfl) ?_
  intro p e s m below meth c C hsz ls hl hw
  have hl : lv_has ls 2 [(0, .ref (am 99)), (1, .int x1)] := hl
  clear hsz
  generalize va_A (mO G am as_ ar ac an ath ah m_am ++ (tO G an t_an ++ (pO G an p_an ++ []))) sz = A at hw ⊢
  unfold f_X8_home at hf
  refine r_aload0 C hl 0 rfl dX8_home_0 ?_
  refine r_get C hw _ (gx_h mO_o) 2 fl_X8_85 rfl dX8_home_1 ?_
  refine lv_if_ne (tgt := 13) C.1 C.2.1 dX8_home_4 (by decide) (fun hc => ?_) (fun hc => ?_)
  · replace hf := ifn hf hc
    refine r_iload0 C hl 1 rfl dX8_home_13 ?_
    obtain ⟨u1, e1, hf⟩ := bx hf
    refine r_callSi (ws' := (mO G am as_ ar ac an ath ah m_am ++ (tO G an t_an ++ (pO G an p_an ++ [])))) (As := [.int x1]) (rest := []) C hw hl.1 kX8_noSize ml_X8_188 (c_X8_noSize l G _ x1 u1 e1) CutX.none ⟨rfl, rfl⟩ ⟨Nat.le_of_ble_eq_true rfl, Nat.le_of_ble_eq_true rfl⟩ rfl ⟨Nat.zero_le _, Nat.zero_le _⟩ rfl (Nat.le_of_ble_eq_true rfl) dX8_home_14 (fun H locs hw => ?_)
    refine lv_if_eq (tgt := 26) C.1 C.2.1 dX8_home_17 (by decide) (fun hc => ?_) (fun hc => ?_)
    · replace hf := ifp hf hc
      refine r_aload0 C hl 0 rfl dX8_home_26 ?_
      refine r_iload0 C hl 1 rfl dX8_home_27 ?_
      refine r_aload0 C hl 0 rfl dX8_home_28 ?_
      refine r_get C hw _ (gx_h mO_o) 9 fl_X8_37 rfl dX8_home_29 ?_
      refine r_get C hw _ (gx_t (gx_h tO_o)) 2 fl_X8_105 rfl dX8_home_32 ?_
      refine r_get C hw _ (gx_t (gx_t (gx_h pO_o))) 1 fl_X8_111 rfl dX8_home_35 ?_
      obtain ⟨u2, e2, hf⟩ := bx hf
      refine r_callSi (ws' := (mO G am as_ ar ac an ath ah m_am ++ (tO G an t_an ++ (pO G an p_an ++ [])))) (As := [.int x1, .int (gS p_an 1)]) (rest := [.ref (am 99)]) C hw hl.1 kX0_homeOf ml_X8_191 (c_X0_homeOf l G _ x1 (gS p_an 1) u2 e2) CutX.none ⟨rfl, rfl⟩ ⟨Nat.le_of_ble_eq_true rfl, Nat.le_of_ble_eq_true rfl⟩ rfl ⟨Nat.zero_le _, Nat.zero_le _⟩ rfl (Nat.le_of_ble_eq_true rfl) dX8_home_38 (fun H locs hw => ?_)
      obtain ⟨u3, e3, hf⟩ := bx hf
      refine r_callVi (ws' := (mO G am as_ ar ac an ath ah u3.2 ++ (tO G an t_an ++ (pO G an p_an ++ [])))) (As := [.int u2]) (rest := []) C hw hl.1 kX8_answer ml_X8_99 (c_X8_answer l G am as_ ar ac an ath ah _ m_am u2 u3 e3) (CutX.take mO_f CutX.none) _ (gx_h mO_o) rfl ⟨rfl, rfl⟩ ⟨Nat.le_of_ble_eq_true rfl, Nat.le_of_ble_eq_true rfl⟩ rfl ⟨Nat.zero_le _, Nat.zero_le _⟩ rfl (Nat.le_of_ble_eq_true rfl) dX8_home_41 (fun H locs hw => ?_)
      exact fin_i C hw (Option.some.inj hf) (fun o => o.1) (fun o => (mO G am as_ ar ac an ath ah o.2 ++ (tO G an t_an ++ (pO G an p_an ++ [])))) rfl rfl dX8_home_44
    · replace hf := ifn hf hc
      refine r_aload0 C hl 0 rfl dX8_home_20 ?_
      refine lv_iconst (v := 2) C.1 C.2.1 dX8_home_21 (by decide) ?_
      obtain ⟨u4, e4, hf⟩ := bx hf
      refine r_callVi (ws' := (mO G am as_ ar ac an ath ah u4.2 ++ (tO G an t_an ++ (pO G an p_an ++ [])))) (As := [.int 2]) (rest := []) C hw hl.1 kX8_refuse ml_X8_63 (c_X8_refuse l G am as_ ar ac an ath ah _ m_am 2 u4 e4) (CutX.take mO_f CutX.none) _ (gx_h mO_o) rfl ⟨rfl, rfl⟩ ⟨Nat.le_of_ble_eq_true rfl, Nat.le_of_ble_eq_true rfl⟩ rfl ⟨Nat.zero_le _, Nat.zero_le _⟩ rfl (Nat.le_of_ble_eq_true rfl) dX8_home_22 (fun H locs hw => ?_)
      exact fin_i C hw (Option.some.inj hf) (fun o => o.1) (fun o => (mO G am as_ ar ac an ath ah o.2 ++ (tO G an t_an ++ (pO G an p_an ++ [])))) rfl rfl dX8_home_25
  · replace hf := ifp hf hc
    refine r_aload0 C hl 0 rfl dX8_home_7 ?_
    refine lv_iconst (v := 1) C.1 C.2.1 dX8_home_8 (by decide) ?_
    obtain ⟨u5, e5, hf⟩ := bx hf
    refine r_callVi (ws' := (mO G am as_ ar ac an ath ah u5.2 ++ (tO G an t_an ++ (pO G an p_an ++ [])))) (As := [.int 1]) (rest := []) C hw hl.1 kX8_refuse ml_X8_63 (c_X8_refuse l G am as_ ar ac an ath ah _ m_am 1 u5 e5) (CutX.take mO_f CutX.none) _ (gx_h mO_o) rfl ⟨rfl, rfl⟩ ⟨Nat.le_of_ble_eq_true rfl, Nat.le_of_ble_eq_true rfl⟩ rfl ⟨Nat.zero_le _, Nat.zero_le _⟩ rfl (Nat.le_of_ble_eq_true rfl) dX8_home_9 (fun H locs hw => ?_)
    exact fin_i C hw (Option.some.inj hf) (fun o => o.1) (fun o => (mO G am as_ ar ac an ath ah o.2 ++ (tO G an t_an ++ (pO G an p_an ++ [])))) rfl rfl dX8_home_12
set_option maxHeartbeats 4000000 in
set_option maxRecDepth 100000 in
theorem c_X8_sizes (l : Launch) (G : GG) (am : Nat → Nat) (as_ : Nat → Nat) (ar : Nat → Nat) (ac : Nat → Nat) (an : Nat → Nat) (ath : Nat → Nat) (ah : Nat → Nat) (sz : Nat) (m_am : Pic) (t_an : Pic) (p_an : Pic) (z_an : Pic) (x1 x2 : Int32) (out : Int32 × Pic) (hf : f_X8_sizes m_am t_an p_an z_an x1 x2 = some out) : Met l yX8_sizes (.code yX8_sizes cX8_sizes 3 (some .int) :: BT) ({ frames := 2, cells := 0, slots := 0, locals := 42 }) (va_Pc [.ref (am 99), .int x1, .int x2] (PreW G sz (mO G am as_ ar ac an ath ah m_am ++ (tO G an t_an ++ (pO G an p_an ++ (zO G an z_an ++ [])))))) (Ans G out.1 (va_A (mO G am as_ ar ac an ath ah m_am ++ (tO G an t_an ++ (pO G an p_an ++ (zO G an z_an ++ [])))) sz) (mO G am as_ ar ac an ath ah out.2 ++ (tO G an t_an ++ (pO G an p_an ++ (zO G an z_an ++ []))))) 0 0 (va_A (mO G am as_ ar ac an ath ah m_am ++ (tO G an t_an ++ (pO G an p_an ++ (zO G an z_an ++ [])))) sz) := by
  refine Met.into (by decide) (Nat.le_of_ble_eq_true rfl) ?_
  intro p e s m below meth c C hsz ls hl hw
  have hl : lv_has ls 3 [(0, .ref (am 99)), (1, .int x1), (2, .int x2)] := hl
  clear hsz
  generalize va_A (mO G am as_ ar ac an ath ah m_am ++ (tO G an t_an ++ (pO G an p_an ++ (zO G an z_an ++ [])))) sz = A at hw ⊢
  unfold f_X8_sizes at hf
  refine r_aload0 C hl 0 rfl dX8_sizes_0 ?_
  refine r_iload0 C hl 1 rfl dX8_sizes_1 ?_
  obtain ⟨u1, e1, hf⟩ := bx hf
  refine r_callVi (ws' := (mO G am as_ ar ac an ath ah m_am ++ (tO G an t_an ++ (pO G an p_an ++ (zO G an z_an ++ []))))) (As := [.int x1]) (rest := []) C hw hl.1 kX8_noClass ml_X8_197 (c_X8_noClass l G am as_ ar ac an ath ah _ m_am t_an p_an x1 u1 e1) (CutX.take mO_f (CutX.take tO_f (CutX.take pO_f CutX.none))) _ (gx_h mO_o) rfl ⟨rfl, rfl⟩ ⟨Nat.le_of_ble_eq_true rfl, Nat.le_of_ble_eq_true rfl⟩ rfl ⟨Nat.zero_le _, Nat.zero_le _⟩ rfl (Nat.le_of_ble_eq_true rfl) dX8_sizes_2 (fun H locs hw => ?_)
  refine lv_if_eq (tgt := 14) C.1 C.2.1 dX8_sizes_5 (by decide) (fun hc => ?_) (fun hc => ?_)
  · replace hf := ifp hf hc
    refine r_iload0 C hl 2 rfl dX8_sizes_14 ?_
    rcases Decidable.em (x2 = 0) with hc | h0_
    · replace hf := ifp hf hc
      refine lv_tableIn (tgt := 48) C.1 C.2.1 dX8_sizes_15 (by rw [hc]; decide) (by rw [hc]; decide) (by rw [hc]; rfl) (by decide) ?_
      refine r_aload0 C hl 0 rfl dX8_sizes_48 ?_
      refine r_iload0 C hl 1 rfl dX8_sizes_49 ?_
      obtain ⟨u11, e11, hf⟩ := bx hf
      refine r_callSi (ws' := (mO G am as_ ar ac an ath ah m_am ++ (tO G an t_an ++ (pO G an p_an ++ (zO G an z_an ++ []))))) (As := [.int x1]) (rest := [.ref (am 99)]) C hw hl.1 kX0_framesOf ml_X8_200 (c_X0_framesOf l G _ x1 u11 e11) CutX.none ⟨rfl, rfl⟩ ⟨Nat.le_of_ble_eq_true rfl, Nat.le_of_ble_eq_true rfl⟩ rfl ⟨Nat.zero_le _, Nat.zero_le _⟩ rfl (Nat.le_of_ble_eq_true rfl) dX8_sizes_50 (fun H locs hw => ?_)
      obtain ⟨u12, e12, hf⟩ := bx hf
      refine r_callVi (ws' := (mO G am as_ ar ac an ath ah u12.2 ++ (tO G an t_an ++ (pO G an p_an ++ (zO G an z_an ++ []))))) (As := [.int u11]) (rest := []) C hw hl.1 kX8_answer ml_X8_99 (c_X8_answer l G am as_ ar ac an ath ah _ m_am u11 u12 e12) (CutX.take mO_f CutX.none) _ (gx_h mO_o) rfl ⟨rfl, rfl⟩ ⟨Nat.le_of_ble_eq_true rfl, Nat.le_of_ble_eq_true rfl⟩ rfl ⟨Nat.zero_le _, Nat.zero_le _⟩ rfl (Nat.le_of_ble_eq_true rfl) dX8_sizes_53 (fun H locs hw => ?_)
      exact fin_i C hw (Option.some.inj hf) (fun o => o.1) (fun o => (mO G am as_ ar ac an ath ah o.2 ++ (tO G an t_an ++ (pO G an p_an ++ (zO G an z_an ++ []))))) rfl rfl dX8_sizes_56
    replace hf := ifn hf h0_
    rcases Decidable.em (x2 = 1) with hc | h1_
    · replace hf := ifp hf hc
      refine lv_tableIn (tgt := 57) C.1 C.2.1 dX8_sizes_15 (by rw [hc]; decide) (by rw [hc]; decide) (by rw [hc]; rfl) (by decide) ?_
      refine r_aload0 C hl 0 rfl dX8_sizes_57 ?_
      refine r_iload0 C hl 1 rfl dX8_sizes_58 ?_
      obtain ⟨u9, e9, hf⟩ := bx hf
      refine r_callSi (ws' := (mO G am as_ ar ac an ath ah m_am ++ (tO G an t_an ++ (pO G an p_an ++ (zO G an z_an ++ []))))) (As := [.int x1]) (rest := [.ref (am 99)]) C hw hl.1 kX0_slotsOf ml_X8_203 (c_X0_slotsOf l G _ x1 u9 e9) CutX.none ⟨rfl, rfl⟩ ⟨Nat.le_of_ble_eq_true rfl, Nat.le_of_ble_eq_true rfl⟩ rfl ⟨Nat.zero_le _, Nat.zero_le _⟩ rfl (Nat.le_of_ble_eq_true rfl) dX8_sizes_59 (fun H locs hw => ?_)
      obtain ⟨u10, e10, hf⟩ := bx hf
      refine r_callVi (ws' := (mO G am as_ ar ac an ath ah u10.2 ++ (tO G an t_an ++ (pO G an p_an ++ (zO G an z_an ++ []))))) (As := [.int u9]) (rest := []) C hw hl.1 kX8_answer ml_X8_99 (c_X8_answer l G am as_ ar ac an ath ah _ m_am u9 u10 e10) (CutX.take mO_f CutX.none) _ (gx_h mO_o) rfl ⟨rfl, rfl⟩ ⟨Nat.le_of_ble_eq_true rfl, Nat.le_of_ble_eq_true rfl⟩ rfl ⟨Nat.zero_le _, Nat.zero_le _⟩ rfl (Nat.le_of_ble_eq_true rfl) dX8_sizes_62 (fun H locs hw => ?_)
      exact fin_i C hw (Option.some.inj hf) (fun o => o.1) (fun o => (mO G am as_ ar ac an ath ah o.2 ++ (tO G an t_an ++ (pO G an p_an ++ (zO G an z_an ++ []))))) rfl rfl dX8_sizes_65
    replace hf := ifn hf h1_
    rcases Decidable.em (x2 = 2) with hc | h2_
    · replace hf := ifp hf hc
      refine lv_tableIn (tgt := 66) C.1 C.2.1 dX8_sizes_15 (by rw [hc]; decide) (by rw [hc]; decide) (by rw [hc]; rfl) (by decide) ?_
      refine r_aload0 C hl 0 rfl dX8_sizes_66 ?_
      refine r_iload0 C hl 1 rfl dX8_sizes_67 ?_
      obtain ⟨u7, e7, hf⟩ := bx hf
      refine r_callSi (ws' := (mO G am as_ ar ac an ath ah m_am ++ (tO G an t_an ++ (pO G an p_an ++ (zO G an z_an ++ []))))) (As := [.int x1]) (rest := [.ref (am 99)]) C hw hl.1 kX0_spareOf ml_X8_206 (c_X0_spareOf l G _ x1 u7 e7) CutX.none ⟨rfl, rfl⟩ ⟨Nat.le_of_ble_eq_true rfl, Nat.le_of_ble_eq_true rfl⟩ rfl ⟨Nat.zero_le _, Nat.zero_le _⟩ rfl (Nat.le_of_ble_eq_true rfl) dX8_sizes_68 (fun H locs hw => ?_)
      obtain ⟨u8, e8, hf⟩ := bx hf
      refine r_callVi (ws' := (mO G am as_ ar ac an ath ah u8.2 ++ (tO G an t_an ++ (pO G an p_an ++ (zO G an z_an ++ []))))) (As := [.int u7]) (rest := []) C hw hl.1 kX8_answer ml_X8_99 (c_X8_answer l G am as_ ar ac an ath ah _ m_am u7 u8 e8) (CutX.take mO_f CutX.none) _ (gx_h mO_o) rfl ⟨rfl, rfl⟩ ⟨Nat.le_of_ble_eq_true rfl, Nat.le_of_ble_eq_true rfl⟩ rfl ⟨Nat.zero_le _, Nat.zero_le _⟩ rfl (Nat.le_of_ble_eq_true rfl) dX8_sizes_71 (fun H locs hw => ?_)
      exact fin_i C hw (Option.some.inj hf) (fun o => o.1) (fun o => (mO G am as_ ar ac an ath ah o.2 ++ (tO G an t_an ++ (pO G an p_an ++ (zO G an z_an ++ []))))) rfl rfl dX8_sizes_74
    replace hf := ifn hf h2_
    rcases Decidable.em (x2 = 3) with hc | h3_
    · replace hf := ifp hf hc
      refine lv_tableIn (tgt := 75) C.1 C.2.1 dX8_sizes_15 (by rw [hc]; decide) (by rw [hc]; decide) (by rw [hc]; rfl) (by decide) ?_
      refine r_aload0 C hl 0 rfl dX8_sizes_75 ?_
      refine r_aload0 C hl 0 rfl dX8_sizes_76 ?_
      refine r_get C hw _ (gx_h mO_o) 9 fl_X8_37 rfl dX8_sizes_77 ?_
      refine r_get C hw _ (gx_t (gx_h tO_o)) 2 fl_X8_105 rfl dX8_sizes_80 ?_
      refine r_get C hw _ (gx_t (gx_t (gx_h pO_o))) 3 fl_X8_120 rfl dX8_sizes_83 ?_
      refine r_iload0 C hl 1 rfl dX8_sizes_86 ?_
      obtain ⟨u5, e5, hf⟩ := bx hf
      refine r_callVi (ws' := (mO G am as_ ar ac an ath ah m_am ++ (tO G an t_an ++ (pO G an p_an ++ (zO G an z_an ++ []))))) (As := [.int x1]) (rest := [.ref (am 99)]) C hw hl.1 kX7_countOf ml_X8_209 (c_X7_countOf l G an _ z_an x1 u5 e5) (CutX.skip (CutX.skip (CutX.skip (CutX.take zO_f CutX.none)))) _ (gx_t (gx_t (gx_t (gx_h zO_o)))) rfl ⟨rfl, rfl⟩ ⟨Nat.le_of_ble_eq_true rfl, Nat.le_of_ble_eq_true rfl⟩ rfl ⟨Nat.zero_le _, Nat.zero_le _⟩ rfl (Nat.le_of_ble_eq_true rfl) dX8_sizes_87 (fun H locs hw => ?_)
      obtain ⟨u6, e6, hf⟩ := bx hf
      refine r_callVi (ws' := (mO G am as_ ar ac an ath ah u6.2 ++ (tO G an t_an ++ (pO G an p_an ++ (zO G an z_an ++ []))))) (As := [.int u5]) (rest := []) C hw hl.1 kX8_answer ml_X8_99 (c_X8_answer l G am as_ ar ac an ath ah _ m_am u5 u6 e6) (CutX.take mO_f CutX.none) _ (gx_h mO_o) rfl ⟨rfl, rfl⟩ ⟨Nat.le_of_ble_eq_true rfl, Nat.le_of_ble_eq_true rfl⟩ rfl ⟨Nat.zero_le _, Nat.zero_le _⟩ rfl (Nat.le_of_ble_eq_true rfl) dX8_sizes_90 (fun H locs hw => ?_)
      exact fin_i C hw (Option.some.inj hf) (fun o => o.1) (fun o => (mO G am as_ ar ac an ath ah o.2 ++ (tO G an t_an ++ (pO G an p_an ++ (zO G an z_an ++ []))))) rfl rfl dX8_sizes_93
    replace hf := ifn hf h3_
    rcases Decidable.em (x2 = 4) with hc | h4_
    · replace hf := ifp hf hc
      refine lv_tableIn (tgt := 94) C.1 C.2.1 dX8_sizes_15 (by rw [hc]; decide) (by rw [hc]; decide) (by rw [hc]; rfl) (by decide) ?_
      refine r_aload0 C hl 0 rfl dX8_sizes_94 ?_
      refine r_aload0 C hl 0 rfl dX8_sizes_95 ?_
      refine r_get C hw _ (gx_h mO_o) 9 fl_X8_37 rfl dX8_sizes_96 ?_
      refine r_get C hw _ (gx_t (gx_h tO_o)) 2 fl_X8_105 rfl dX8_sizes_99 ?_
      refine r_get C hw _ (gx_t (gx_t (gx_h pO_o))) 3 fl_X8_120 rfl dX8_sizes_102 ?_
      refine r_iload0 C hl 1 rfl dX8_sizes_105 ?_
      obtain ⟨u3, e3, hf⟩ := bx hf
      refine r_callVi (ws' := (mO G am as_ ar ac an ath ah m_am ++ (tO G an t_an ++ (pO G an p_an ++ (zO G an z_an ++ []))))) (As := [.int x1]) (rest := [.ref (am 99)]) C hw hl.1 kX7_pagesOf ml_X8_212 (c_X7_pagesOf l G an _ z_an x1 u3 e3) (CutX.skip (CutX.skip (CutX.skip (CutX.take zO_f CutX.none)))) _ (gx_t (gx_t (gx_t (gx_h zO_o)))) rfl ⟨rfl, rfl⟩ ⟨Nat.le_of_ble_eq_true rfl, Nat.le_of_ble_eq_true rfl⟩ rfl ⟨Nat.zero_le _, Nat.zero_le _⟩ rfl (Nat.le_of_ble_eq_true rfl) dX8_sizes_106 (fun H locs hw => ?_)
      obtain ⟨u4, e4, hf⟩ := bx hf
      refine r_callVi (ws' := (mO G am as_ ar ac an ath ah u4.2 ++ (tO G an t_an ++ (pO G an p_an ++ (zO G an z_an ++ []))))) (As := [.int u3]) (rest := []) C hw hl.1 kX8_answer ml_X8_99 (c_X8_answer l G am as_ ar ac an ath ah _ m_am u3 u4 e4) (CutX.take mO_f CutX.none) _ (gx_h mO_o) rfl ⟨rfl, rfl⟩ ⟨Nat.le_of_ble_eq_true rfl, Nat.le_of_ble_eq_true rfl⟩ rfl ⟨Nat.zero_le _, Nat.zero_le _⟩ rfl (Nat.le_of_ble_eq_true rfl) dX8_sizes_109 (fun H locs hw => ?_)
      exact fin_i C hw (Option.some.inj hf) (fun o => o.1) (fun o => (mO G am as_ ar ac an ath ah o.2 ++ (tO G an t_an ++ (pO G an p_an ++ (zO G an z_an ++ []))))) rfl rfl dX8_sizes_112
    replace hf := ifn hf h4_
    refine lv_tableOut (tgt := 113) C.1 C.2.1 dX8_sizes_15 (sw_out5 h0_ h1_ h2_ h3_ h4_) (by decide) ?_
    refine r_aload0 C hl 0 rfl dX8_sizes_113 ?_
    refine lv_iconst (v := 1) C.1 C.2.1 dX8_sizes_114 (by decide) ?_
    obtain ⟨u2, e2, hf⟩ := bx hf
    refine r_callVi (ws' := (mO G am as_ ar ac an ath ah u2.2 ++ (tO G an t_an ++ (pO G an p_an ++ (zO G an z_an ++ []))))) (As := [.int 1]) (rest := []) C hw hl.1 kX8_refuse ml_X8_63 (c_X8_refuse l G am as_ ar ac an ath ah _ m_am 1 u2 e2) (CutX.take mO_f CutX.none) _ (gx_h mO_o) rfl ⟨rfl, rfl⟩ ⟨Nat.le_of_ble_eq_true rfl, Nat.le_of_ble_eq_true rfl⟩ rfl ⟨Nat.zero_le _, Nat.zero_le _⟩ rfl (Nat.le_of_ble_eq_true rfl) dX8_sizes_115 (fun H locs hw => ?_)
    exact fin_i C hw (Option.some.inj hf) (fun o => o.1) (fun o => (mO G am as_ ar ac an ath ah o.2 ++ (tO G an t_an ++ (pO G an p_an ++ (zO G an z_an ++ []))))) rfl rfl dX8_sizes_118
  · replace hf := ifn hf hc
    refine r_aload0 C hl 0 rfl dX8_sizes_8 ?_
    refine lv_iconst (v := 1) C.1 C.2.1 dX8_sizes_9 (by decide) ?_
    obtain ⟨u13, e13, hf⟩ := bx hf
    refine r_callVi (ws' := (mO G am as_ ar ac an ath ah u13.2 ++ (tO G an t_an ++ (pO G an p_an ++ (zO G an z_an ++ []))))) (As := [.int 1]) (rest := []) C hw hl.1 kX8_refuse ml_X8_63 (c_X8_refuse l G am as_ ar ac an ath ah _ m_am 1 u13 e13) (CutX.take mO_f CutX.none) _ (gx_h mO_o) rfl ⟨rfl, rfl⟩ ⟨Nat.le_of_ble_eq_true rfl, Nat.le_of_ble_eq_true rfl⟩ rfl ⟨Nat.zero_le _, Nat.zero_le _⟩ rfl (Nat.le_of_ble_eq_true rfl) dX8_sizes_10 (fun H locs hw => ?_)
    exact fin_i C hw (Option.some.inj hf) (fun o => o.1) (fun o => (mO G am as_ ar ac an ath ah o.2 ++ (tO G an t_an ++ (pO G an p_an ++ (zO G an z_an ++ []))))) rfl rfl dX8_sizes_13
set_option maxHeartbeats 4000000 in
set_option maxRecDepth 100000 in
theorem c_X8_gain (l : Launch) (G : GG) (am : Nat → Nat) (as_ : Nat → Nat) (ar : Nat → Nat) (ac : Nat → Nat) (an : Nat → Nat) (ath : Nat → Nat) (ah : Nat → Nat) (sz : Nat) (m_am : Pic) (t_an : Pic) (p_an : Pic) (p_ath : Pic) (z_an : Pic) (z_ath : Pic)  (out : Int32 × Pic × Pic × Pic) (hf : f_X8_gain m_am t_an p_an p_ath z_an z_ath = some out) : Met l yX8_gain (.code yX8_gain cX8_gain 1 (some .int) :: BT) ({ frames := 5, cells := 0, slots := 0, locals := 113 }) (va_Pc [.ref (am 99)] (PreW G sz (mO G am as_ ar ac an ath ah m_am ++ (tO G an t_an ++ (pO G an p_an ++ (pO G ath p_ath ++ (zO G an z_an ++ (zO G ath z_ath ++ [])))))))) (Ans G out.1 (va_A (mO G am as_ ar ac an ath ah m_am ++ (tO G an t_an ++ (pO G an p_an ++ (pO G ath p_ath ++ (zO G an z_an ++ (zO G ath z_ath ++ [])))))) sz) (mO G am as_ ar ac an ath ah out.2.1 ++ (tO G an t_an ++ (pO G an p_an ++ (pO G ath out.2.2.1 ++ (zO G an z_an ++ (zO G ath out.2.2.2 ++ []))))))) 0 0 (va_A (mO G am as_ ar ac an ath ah m_am ++ (tO G an t_an ++ (pO G an p_an ++ (pO G ath p_ath ++ (zO G an z_an ++ (zO G ath z_ath ++ [])))))) sz) := by
  refine Met.into (by decide) (Nat.le_of_ble_eq_true rfl) ?_
  intro p e s m below meth c C hsz ls hl hw
  have hl : lv_has ls 1 [(0, .ref (am 99))] := hl
  clear hsz
  generalize va_A (mO G am as_ ar ac an ath ah m_am ++ (tO G an t_an ++ (pO G an p_an ++ (pO G ath p_ath ++ (zO G an z_an ++ (zO G ath z_ath ++ [])))))) sz = A at hw ⊢
  unfold f_X8_gain at hf
  refine r_aload0 C hl 0 rfl dX8_gain_0 ?_
  refine r_get C hw _ (gx_h mO_o) 2 fl_X8_85 rfl dX8_gain_1 ?_
  refine lv_if_ne (tgt := 13) C.1 C.2.1 dX8_gain_4 (by decide) (fun hc => ?_) (fun hc => ?_)
  · replace hf := ifn hf hc
    refine r_aload0 C hl 0 rfl dX8_gain_13 ?_
    refine r_get C hw _ (gx_h mO_o) 10 fl_X8_44 rfl dX8_gain_14 ?_
    refine r_aload0 C hl 0 rfl dX8_gain_17 ?_
    refine r_get C hw _ (gx_h mO_o) 9 fl_X8_37 rfl dX8_gain_18 ?_
    refine r_get C hw _ (gx_t (gx_h tO_o)) 2 fl_X8_105 rfl dX8_gain_21 ?_
    obtain ⟨u1, e1, hf⟩ := bx hf
    refine r_callVv (ws' := (mO G am as_ ar ac an ath ah m_am ++ (tO G an t_an ++ (pO G an p_an ++ (pO G ath u1.1 ++ (zO G an z_an ++ (zO G ath u1.2 ++ []))))))) (As := [.ref (an 99)]) (rest := []) C hw hl.1 kX3_copyFrom ml_X8_215 (c_X3_copyFrom l G ath an _ p_ath p_an z_ath z_an u1 e1) (CutX.mk (isC := [15, 16, 17, 18, 19, 20, 21, 22, 23, 24, 5, 6, 7, 8, 9, 10, 11, 12, 13, 14, 31, 32, 33, 34, 35, 36, 25, 26, 27, 28, 29, 30]) (isR := [0, 1, 2, 3, 4]) 37 (by decide) rfl rfl rfl rfl (by decide) rfl) _ (gx_t (gx_t (gx_t (gx_h pO_o)))) rfl ⟨rfl, rfl⟩ ⟨Nat.le_of_ble_eq_true rfl, Nat.le_of_ble_eq_true rfl⟩ rfl ⟨Nat.zero_le _, Nat.zero_le _⟩ rfl (Nat.le_of_ble_eq_true rfl) dX8_gain_24 (fun H locs hw => ?_)
    refine r_aload0 C hl 0 rfl dX8_gain_27 ?_
    refine r_aload0 C hl 0 rfl dX8_gain_28 ?_
    refine r_get C hw _ (gx_h mO_o) 10 fl_X8_44 rfl dX8_gain_29 ?_
    obtain ⟨u2, e2, hf⟩ := bx hf
    refine r_callVi (ws' := (mO G am as_ ar ac an ath ah m_am ++ (tO G an t_an ++ (pO G an p_an ++ (pO G ath u2.2.1 ++ (zO G an z_an ++ (zO G ath u2.2.2 ++ []))))))) (As := []) (rest := [.ref (am 99)]) C hw hl.1 kX3_compactAll ml_X8_219 (c_X3_compactAll l G ath _ u1.1 u1.2 u2 e2) (CutX.skip (CutX.skip (CutX.skip (CutX.take pO_f (CutX.skip (CutX.take zO_f CutX.none)))))) _ (gx_t (gx_t (gx_t (gx_h pO_o)))) rfl ⟨rfl, rfl⟩ ⟨Nat.le_of_ble_eq_true rfl, Nat.le_of_ble_eq_true rfl⟩ rfl ⟨Nat.zero_le _, Nat.zero_le _⟩ rfl (Nat.le_of_ble_eq_true rfl) dX8_gain_32 (fun H locs hw => ?_)
    obtain ⟨u3, e3, hf⟩ := bx hf
    refine r_callVi (ws' := (mO G am as_ ar ac an ath ah u3.2 ++ (tO G an t_an ++ (pO G an p_an ++ (pO G ath u2.2.1 ++ (zO G an z_an ++ (zO G ath u2.2.2 ++ []))))))) (As := [.int u2.1]) (rest := []) C hw hl.1 kX8_answer ml_X8_99 (c_X8_answer l G am as_ ar ac an ath ah _ m_am u2.1 u3 e3) (CutX.take mO_f CutX.none) _ (gx_h mO_o) rfl ⟨rfl, rfl⟩ ⟨Nat.le_of_ble_eq_true rfl, Nat.le_of_ble_eq_true rfl⟩ rfl ⟨Nat.zero_le _, Nat.zero_le _⟩ rfl (Nat.le_of_ble_eq_true rfl) dX8_gain_35 (fun H locs hw => ?_)
    exact fin_i C hw (Option.some.inj hf) (fun o => o.1) (fun o => (mO G am as_ ar ac an ath ah o.2.1 ++ (tO G an t_an ++ (pO G an p_an ++ (pO G ath o.2.2.1 ++ (zO G an z_an ++ (zO G ath o.2.2.2 ++ []))))))) rfl rfl dX8_gain_38
  · replace hf := ifp hf hc
    refine r_aload0 C hl 0 rfl dX8_gain_7 ?_
    refine lv_iconst (v := 1) C.1 C.2.1 dX8_gain_8 (by decide) ?_
    obtain ⟨u4, e4, hf⟩ := bx hf
    refine r_callVi (ws' := (mO G am as_ ar ac an ath ah u4.2 ++ (tO G an t_an ++ (pO G an p_an ++ (pO G ath p_ath ++ (zO G an z_an ++ (zO G ath z_ath ++ []))))))) (As := [.int 1]) (rest := []) C hw hl.1 kX8_refuse ml_X8_63 (c_X8_refuse l G am as_ ar ac an ath ah _ m_am 1 u4 e4) (CutX.take mO_f CutX.none) _ (gx_h mO_o) rfl ⟨rfl, rfl⟩ ⟨Nat.le_of_ble_eq_true rfl, Nat.le_of_ble_eq_true rfl⟩ rfl ⟨Nat.zero_le _, Nat.zero_le _⟩ rfl (Nat.le_of_ble_eq_true rfl) dX8_gain_9 (fun H locs hw => ?_)
    exact fin_i C hw (Option.some.inj hf) (fun o => o.1) (fun o => (mO G am as_ ar ac an ath ah o.2.1 ++ (tO G an t_an ++ (pO G an p_an ++ (pO G ath o.2.2.1 ++ (zO G an z_an ++ (zO G ath o.2.2.2 ++ []))))))) rfl rfl dX8_gain_12
set_option maxHeartbeats 4000000 in
set_option maxRecDepth 100000 in
theorem c_X8_next (l : Launch) (G : GG) (am : Nat → Nat) (as_ : Nat → Nat) (ar : Nat → Nat) (ac : Nat → Nat) (an : Nat → Nat) (ath : Nat → Nat) (ah : Nat → Nat) (sz : Nat) (m_am : Pic) (t_an : Pic) (p_an : Pic) (z_an : Pic) (x1 : Int32) (out : Int32 × Pic) (hf : f_X8_next m_am t_an p_an z_an x1 = some out) : Met l yX8_next (.code yX8_next cX8_next 2 (some .int) :: BT) ({ frames := 3, cells := 0, slots := 0, locals := 68 }) (va_Pc [.ref (am 99), .int x1] (PreW G sz (mO G am as_ ar ac an ath ah m_am ++ (tO G an t_an ++ (pO G an p_an ++ (zO G an z_an ++ [])))))) (Ans G out.1 (va_A (mO G am as_ ar ac an ath ah m_am ++ (tO G an t_an ++ (pO G an p_an ++ (zO G an z_an ++ [])))) sz) (mO G am as_ ar ac an ath ah out.2 ++ (tO G an t_an ++ (pO G an p_an ++ (zO G an z_an ++ []))))) 0 0 (va_A (mO G am as_ ar ac an ath ah m_am ++ (tO G an t_an ++ (pO G an p_an ++ (zO G an z_an ++ [])))) sz) := by
  refine Met.into (by decide) (Nat.le_of_ble_eq_true rfl) ?_
  intro p e s m below meth c C hsz ls hl hw
  have hl : lv_has ls 2 [(0, .ref (am 99)), (1, .int x1)] := hl
  clear hsz
  generalize va_A (mO G am as_ ar ac an ath ah m_am ++ (tO G an t_an ++ (pO G an p_an ++ (zO G an z_an ++ [])))) sz = A at hw ⊢
  unfold f_X8_next at hf
  refine r_aload0 C hl 0 rfl dX8_next_0 ?_
  refine r_get C hw _ (gx_h mO_o) 2 fl_X8_85 rfl dX8_next_1 ?_
  refine lv_if_ne (tgt := 13) C.1 C.2.1 dX8_next_4 (by decide) (fun hc => ?_) (fun hc => ?_)
  · replace hf := ifn hf hc
    refine r_iload0 C hl 1 rfl dX8_next_13 ?_
    obtain ⟨u1, e1, hf⟩ := bx hf
    refine r_callSi (ws' := (mO G am as_ ar ac an ath ah m_am ++ (tO G an t_an ++ (pO G an p_an ++ (zO G an z_an ++ []))))) (As := [.int x1]) (rest := []) C hw hl.1 kX8_noSize ml_X8_188 (c_X8_noSize l G _ x1 u1 e1) CutX.none ⟨rfl, rfl⟩ ⟨Nat.le_of_ble_eq_true rfl, Nat.le_of_ble_eq_true rfl⟩ rfl ⟨Nat.zero_le _, Nat.zero_le _⟩ rfl (Nat.le_of_ble_eq_true rfl) dX8_next_14 (fun H locs hw => ?_)
    refine lv_if_eq (tgt := 26) C.1 C.2.1 dX8_next_17 (by decide) (fun hc => ?_) (fun hc => ?_)
    · replace hf := ifp hf hc
      refine r_aload0 C hl 0 rfl dX8_next_26 ?_
      refine r_aload0 C hl 0 rfl dX8_next_27 ?_
      refine r_get C hw _ (gx_h mO_o) 9 fl_X8_37 rfl dX8_next_28 ?_
      refine r_get C hw _ (gx_t (gx_h tO_o)) 2 fl_X8_105 rfl dX8_next_31 ?_
      refine r_iload0 C hl 1 rfl dX8_next_34 ?_
      refine r_aload0 C hl 0 rfl dX8_next_35 ?_
      refine r_get C hw _ (gx_h mO_o) 9 fl_X8_37 rfl dX8_next_36 ?_
      refine r_get C hw _ (gx_t (gx_h tO_o)) 2 fl_X8_105 rfl dX8_next_39 ?_
      refine r_get C hw _ (gx_t (gx_t (gx_h pO_o))) 1 fl_X8_111 rfl dX8_next_42 ?_
      obtain ⟨u2, e2, hf⟩ := bx hf
      refine r_callSi (ws' := (mO G am as_ ar ac an ath ah m_am ++ (tO G an t_an ++ (pO G an p_an ++ (zO G an z_an ++ []))))) (As := [.int x1, .int (gS p_an 1)]) (rest := [.ref (an 99), .ref (am 99)]) C hw hl.1 kX0_homeOf ml_X8_191 (c_X0_homeOf l G _ x1 (gS p_an 1) u2 e2) CutX.none ⟨rfl, rfl⟩ ⟨Nat.le_of_ble_eq_true rfl, Nat.le_of_ble_eq_true rfl⟩ rfl ⟨Nat.zero_le _, Nat.zero_le _⟩ rfl (Nat.le_of_ble_eq_true rfl) dX8_next_45 (fun H locs hw => ?_)
      obtain ⟨u3, e3, hf⟩ := bx hf
      refine r_callVi (ws' := (mO G am as_ ar ac an ath ah m_am ++ (tO G an t_an ++ (pO G an p_an ++ (zO G an z_an ++ []))))) (As := [.int u2]) (rest := [.ref (am 99)]) C hw hl.1 kX3_zoneFor ml_X8_222 (c_X3_zoneFor l G an _ p_an z_an u2 u3 e3) (CutX.skip (CutX.skip (CutX.take pO_f (CutX.take zO_f CutX.none)))) _ (gx_t (gx_t (gx_h pO_o))) rfl ⟨rfl, rfl⟩ ⟨Nat.le_of_ble_eq_true rfl, Nat.le_of_ble_eq_true rfl⟩ rfl ⟨Nat.zero_le _, Nat.zero_le _⟩ rfl (Nat.le_of_ble_eq_true rfl) dX8_next_48 (fun H locs hw => ?_)
      obtain ⟨u4, e4, hf⟩ := bx hf
      refine r_callVi (ws' := (mO G am as_ ar ac an ath ah u4.2 ++ (tO G an t_an ++ (pO G an p_an ++ (zO G an z_an ++ []))))) (As := [.int u3]) (rest := []) C hw hl.1 kX8_answer ml_X8_99 (c_X8_answer l G am as_ ar ac an ath ah _ m_am u3 u4 e4) (CutX.take mO_f CutX.none) _ (gx_h mO_o) rfl ⟨rfl, rfl⟩ ⟨Nat.le_of_ble_eq_true rfl, Nat.le_of_ble_eq_true rfl⟩ rfl ⟨Nat.zero_le _, Nat.zero_le _⟩ rfl (Nat.le_of_ble_eq_true rfl) dX8_next_51 (fun H locs hw => ?_)
      exact fin_i C hw (Option.some.inj hf) (fun o => o.1) (fun o => (mO G am as_ ar ac an ath ah o.2 ++ (tO G an t_an ++ (pO G an p_an ++ (zO G an z_an ++ []))))) rfl rfl dX8_next_54
    · replace hf := ifn hf hc
      refine r_aload0 C hl 0 rfl dX8_next_20 ?_
      refine lv_iconst (v := 2) C.1 C.2.1 dX8_next_21 (by decide) ?_
      obtain ⟨u5, e5, hf⟩ := bx hf
      refine r_callVi (ws' := (mO G am as_ ar ac an ath ah u5.2 ++ (tO G an t_an ++ (pO G an p_an ++ (zO G an z_an ++ []))))) (As := [.int 2]) (rest := []) C hw hl.1 kX8_refuse ml_X8_63 (c_X8_refuse l G am as_ ar ac an ath ah _ m_am 2 u5 e5) (CutX.take mO_f CutX.none) _ (gx_h mO_o) rfl ⟨rfl, rfl⟩ ⟨Nat.le_of_ble_eq_true rfl, Nat.le_of_ble_eq_true rfl⟩ rfl ⟨Nat.zero_le _, Nat.zero_le _⟩ rfl (Nat.le_of_ble_eq_true rfl) dX8_next_22 (fun H locs hw => ?_)
      exact fin_i C hw (Option.some.inj hf) (fun o => o.1) (fun o => (mO G am as_ ar ac an ath ah o.2 ++ (tO G an t_an ++ (pO G an p_an ++ (zO G an z_an ++ []))))) rfl rfl dX8_next_25
  · replace hf := ifp hf hc
    refine r_aload0 C hl 0 rfl dX8_next_7 ?_
    refine lv_iconst (v := 1) C.1 C.2.1 dX8_next_8 (by decide) ?_
    obtain ⟨u6, e6, hf⟩ := bx hf
    refine r_callVi (ws' := (mO G am as_ ar ac an ath ah u6.2 ++ (tO G an t_an ++ (pO G an p_an ++ (zO G an z_an ++ []))))) (As := [.int 1]) (rest := []) C hw hl.1 kX8_refuse ml_X8_63 (c_X8_refuse l G am as_ ar ac an ath ah _ m_am 1 u6 e6) (CutX.take mO_f CutX.none) _ (gx_h mO_o) rfl ⟨rfl, rfl⟩ ⟨Nat.le_of_ble_eq_true rfl, Nat.le_of_ble_eq_true rfl⟩ rfl ⟨Nat.zero_le _, Nat.zero_le _⟩ rfl (Nat.le_of_ble_eq_true rfl) dX8_next_9 (fun H locs hw => ?_)
    exact fin_i C hw (Option.some.inj hf) (fun o => o.1) (fun o => (mO G am as_ ar ac an ath ah o.2 ++ (tO G an t_an ++ (pO G an p_an ++ (zO G an z_an ++ []))))) rfl rfl dX8_next_12
set_option maxHeartbeats 4000000 in
set_option maxRecDepth 100000 in
theorem c_X8_coldest (l : Launch) (G : GG) (am : Nat → Nat) (as_ : Nat → Nat) (ar : Nat → Nat) (ac : Nat → Nat) (an : Nat → Nat) (ath : Nat → Nat) (ah : Nat → Nat) (sz : Nat) (m_am : Pic) (t_an : Pic) (p_an : Pic) (x1 : Int32) (out : Int32 × Pic) (hf : f_X8_coldest m_am t_an p_an x1 = some out) : Met l yX8_coldest (.code yX8_coldest cX8_coldest 2 (some .int) :: BT) ({ frames := 3, cells := 0, slots := 0, locals := 63 }) (va_Pc [.ref (am 99), .int x1] (PreW G sz (mO G am as_ ar ac an ath ah m_am ++ (tO G an t_an ++ (pO G an p_an ++ []))))) (Ans G out.1 (va_A (mO G am as_ ar ac an ath ah m_am ++ (tO G an t_an ++ (pO G an p_an ++ []))) sz) (mO G am as_ ar ac an ath ah out.2 ++ (tO G an t_an ++ (pO G an p_an ++ [])))) 0 0 (va_A (mO G am as_ ar ac an ath ah m_am ++ (tO G an t_an ++ (pO G an p_an ++ []))) sz) := by
  refine Met.into (by decide) (Nat.le_of_ble_eq_true rfl) ?_
  intro p e s m below meth c C hsz ls hl hw
  have hl : lv_has ls 2 [(0, .ref (am 99)), (1, .int x1)] := hl
  clear hsz
  generalize va_A (mO G am as_ ar ac an ath ah m_am ++ (tO G an t_an ++ (pO G an p_an ++ []))) sz = A at hw ⊢
  unfold f_X8_coldest at hf
  refine r_aload0 C hl 0 rfl dX8_coldest_0 ?_
  refine r_iload0 C hl 1 rfl dX8_coldest_1 ?_
  obtain ⟨u1, e1, hf⟩ := bx hf
  refine r_callVi (ws' := (mO G am as_ ar ac an ath ah m_am ++ (tO G an t_an ++ (pO G an p_an ++ [])))) (As := [.int x1]) (rest := []) C hw hl.1 kX8_noClass ml_X8_197 (c_X8_noClass l G am as_ ar ac an ath ah _ m_am t_an p_an x1 u1 e1) (CutX.take mO_f (CutX.take tO_f (CutX.take pO_f CutX.none))) _ (gx_h mO_o) rfl ⟨rfl, rfl⟩ ⟨Nat.le_of_ble_eq_true rfl, Nat.le_of_ble_eq_true rfl⟩ rfl ⟨Nat.zero_le _, Nat.zero_le _⟩ rfl (Nat.le_of_ble_eq_true rfl) dX8_coldest_2 (fun H locs hw => ?_)
  refine lv_if_eq (tgt := 14) C.1 C.2.1 dX8_coldest_5 (by decide) (fun hc => ?_) (fun hc => ?_)
  · replace hf := ifp hf hc
    refine r_aload0 C hl 0 rfl dX8_coldest_14 ?_
    refine r_aload0 C hl 0 rfl dX8_coldest_15 ?_
    refine r_get C hw _ (gx_h mO_o) 9 fl_X8_37 rfl dX8_coldest_16 ?_
    refine r_get C hw _ (gx_t (gx_h tO_o)) 2 fl_X8_105 rfl dX8_coldest_19 ?_
    refine r_iload0 C hl 1 rfl dX8_coldest_22 ?_
    obtain ⟨u2, e2, hf⟩ := bx hf
    refine r_callVi (ws' := (mO G am as_ ar ac an ath ah m_am ++ (tO G an t_an ++ (pO G an p_an ++ [])))) (As := [.int x1]) (rest := [.ref (am 99)]) C hw hl.1 kX3_coldestOf ml_X8_225 (c_X3_coldestOf l G an _ p_an x1 u2 e2) (CutX.skip (CutX.skip (CutX.take pO_f CutX.none))) _ (gx_t (gx_t (gx_h pO_o))) rfl ⟨rfl, rfl⟩ ⟨Nat.le_of_ble_eq_true rfl, Nat.le_of_ble_eq_true rfl⟩ rfl ⟨Nat.zero_le _, Nat.zero_le _⟩ rfl (Nat.le_of_ble_eq_true rfl) dX8_coldest_23 (fun H locs hw => ?_)
    obtain ⟨u3, e3, hf⟩ := bx hf
    refine r_callVi (ws' := (mO G am as_ ar ac an ath ah u3.2 ++ (tO G an t_an ++ (pO G an p_an ++ [])))) (As := [.int u2]) (rest := []) C hw hl.1 kX8_answer ml_X8_99 (c_X8_answer l G am as_ ar ac an ath ah _ m_am u2 u3 e3) (CutX.take mO_f CutX.none) _ (gx_h mO_o) rfl ⟨rfl, rfl⟩ ⟨Nat.le_of_ble_eq_true rfl, Nat.le_of_ble_eq_true rfl⟩ rfl ⟨Nat.zero_le _, Nat.zero_le _⟩ rfl (Nat.le_of_ble_eq_true rfl) dX8_coldest_26 (fun H locs hw => ?_)
    exact fin_i C hw (Option.some.inj hf) (fun o => o.1) (fun o => (mO G am as_ ar ac an ath ah o.2 ++ (tO G an t_an ++ (pO G an p_an ++ [])))) rfl rfl dX8_coldest_29
  · replace hf := ifn hf hc
    refine r_aload0 C hl 0 rfl dX8_coldest_8 ?_
    refine lv_iconst (v := 1) C.1 C.2.1 dX8_coldest_9 (by decide) ?_
    obtain ⟨u4, e4, hf⟩ := bx hf
    refine r_callVi (ws' := (mO G am as_ ar ac an ath ah u4.2 ++ (tO G an t_an ++ (pO G an p_an ++ [])))) (As := [.int 1]) (rest := []) C hw hl.1 kX8_refuse ml_X8_63 (c_X8_refuse l G am as_ ar ac an ath ah _ m_am 1 u4 e4) (CutX.take mO_f CutX.none) _ (gx_h mO_o) rfl ⟨rfl, rfl⟩ ⟨Nat.le_of_ble_eq_true rfl, Nat.le_of_ble_eq_true rfl⟩ rfl ⟨Nat.zero_le _, Nat.zero_le _⟩ rfl (Nat.le_of_ble_eq_true rfl) dX8_coldest_10 (fun H locs hw => ?_)
    exact fin_i C hw (Option.some.inj hf) (fun o => o.1) (fun o => (mO G am as_ ar ac an ath ah o.2 ++ (tO G an t_an ++ (pO G an p_an ++ [])))) rfl rfl dX8_coldest_13
set_option maxHeartbeats 4000000 in
set_option maxRecDepth 100000 in
theorem c_X8_fittest (l : Launch) (G : GG) (am : Nat → Nat) (as_ : Nat → Nat) (ar : Nat → Nat) (ac : Nat → Nat) (an : Nat → Nat) (ath : Nat → Nat) (ah : Nat → Nat) (sz : Nat) (m_am : Pic) (t_an : Pic) (p_an : Pic)  (out : Int32 × Pic) (hf : f_X8_fittest m_am t_an p_an = some out) : Met l yX8_fittest (.code yX8_fittest cX8_fittest 3 (some .int) :: BT) ({ frames := 3, cells := 0, slots := 0, locals := 69 }) (va_Pc [.ref (am 99)] (PreW G sz (mO G am as_ ar ac an ath ah m_am ++ (tO G an t_an ++ (pO G an p_an ++ []))))) (Ans G out.1 (va_A (mO G am as_ ar ac an ath ah m_am ++ (tO G an t_an ++ (pO G an p_an ++ []))) sz) (mO G am as_ ar ac an ath ah out.2 ++ (tO G an t_an ++ (pO G an p_an ++ [])))) 0 0 (va_A (mO G am as_ ar ac an ath ah m_am ++ (tO G an t_an ++ (pO G an p_an ++ []))) sz) := by
  refine Met.into (by decide) (Nat.le_of_ble_eq_true rfl) ?_
  intro p e s m below meth c C hsz ls hl hw
  have hl : lv_has ls 3 [(0, .ref (am 99))] := hl
  clear hsz
  generalize va_A (mO G am as_ ar ac an ath ah m_am ++ (tO G an t_an ++ (pO G an p_an ++ []))) sz = A at hw ⊢
  have hB_17 : ∀ (k17 : Pic → Int32 → Int32 → Option (Int32 × Pic)) (hk17 : ∀ (m_am : Pic) (v1 : Int32) (v2 : Int32), k17 m_am v1 v2 = some out → ∀ (H : Heap) (locs : List Loc), Wd G A s H locs (mO G am as_ ar ac an ath ah m_am ++ (tO G an t_an ++ (pO G an p_an ++ []))) → ∀ ls : Array Slot, lv_has ls 3 [(0, .ref (am 99)), (1, .int v1), (2, .int v2)] → W p l e ({ frames := 3, cells := 0, slots := 0, locals := 69 }) s m [.ref (am 99)].toArray below meth c H locs 0 0 (MQ below (Ans G out.1 A (mO G am as_ ar ac an ath ah out.2 ++ (tO G an t_an ++ (pO G an p_an ++ [])))) [.ref (am 99)].toArray s 0 0 A) (F0 m 17 ls [])), ∀ (m_am : Pic) (v1 : Int32) (v2 : Int32), b_X8_fittest_17 t_an p_an k17 m_am v1 v2 = some out → ∀ (H : Heap) (locs : List Loc), Wd G A s H locs (mO G am as_ ar ac an ath ah m_am ++ (tO G an t_an ++ (pO G an p_an ++ []))) → ∀ ls : Array Slot, lv_has ls 3 [(0, .ref (am 99)), (1, .int v1), (2, .int v2)] → W p l e ({ frames := 3, cells := 0, slots := 0, locals := 69 }) s m [.ref (am 99)].toArray below meth c H locs 0 0 (MQ below (Ans G out.1 A (mO G am as_ ar ac an ath ah out.2 ++ (tO G an t_an ++ (pO G an p_an ++ [])))) [.ref (am 99)].toArray s 0 0 A) (F0 m 17 ls []) := by
    intro k17 hk17 m_am v1 v2 hf H locs hw ls hl
    unfold b_X8_fittest_17 at hf
    refine r_iload0 C hl 2 rfl dX8_fittest_17 ?_
    refine lv_iconst (v := 4) C.1 C.2.1 dX8_fittest_18 (by decide) ?_
    refine lv_icmp_gt (tgt := 55) C.1 C.2.1 dX8_fittest_19 (by decide) (fun hc => ?_) (fun hc => ?_)
    · replace hf := ifp hf hc
      refine r_aload0 C hl 0 rfl dX8_fittest_55 ?_
      refine r_iload0 C hl 1 rfl dX8_fittest_56 ?_
      obtain ⟨u1, e1, hf⟩ := bx hf
      refine r_callVi (ws' := (mO G am as_ ar ac an ath ah u1.2 ++ (tO G an t_an ++ (pO G an p_an ++ [])))) (As := [.int v1]) (rest := []) C hw hl.1 kX8_answer ml_X8_99 (c_X8_answer l G am as_ ar ac an ath ah _ m_am v1 u1 e1) (CutX.take mO_f CutX.none) _ (gx_h mO_o) rfl ⟨rfl, rfl⟩ ⟨Nat.le_of_ble_eq_true rfl, Nat.le_of_ble_eq_true rfl⟩ rfl ⟨Nat.zero_le _, Nat.zero_le _⟩ rfl (Nat.le_of_ble_eq_true rfl) dX8_fittest_57 (fun H locs hw => ?_)
      exact fin_i C hw (Option.some.inj hf) (fun o => o.1) (fun o => (mO G am as_ ar ac an ath ah o.2 ++ (tO G an t_an ++ (pO G an p_an ++ [])))) rfl rfl dX8_fittest_60
    · replace hf := ifn hf hc
      refine r_aload0 C hl 0 rfl dX8_fittest_22 ?_
      refine r_get C hw _ (gx_h mO_o) 9 fl_X8_37 rfl dX8_fittest_23 ?_
      refine r_get C hw _ (gx_t (gx_h tO_o)) 2 fl_X8_105 rfl dX8_fittest_26 ?_
      refine r_iload0 C hl 2 rfl dX8_fittest_29 ?_
      obtain ⟨u2, e2, hf⟩ := bx hf
      refine r_callVi (ws' := (mO G am as_ ar ac an ath ah m_am ++ (tO G an t_an ++ (pO G an p_an ++ [])))) (As := [.int v2]) (rest := []) C hw hl.1 kX3_framesBy ml_X8_228 (c_X3_framesBy l G an _ p_an v2 u2 e2) (CutX.skip (CutX.skip (CutX.take pO_f CutX.none))) _ (gx_t (gx_t (gx_h pO_o))) rfl ⟨rfl, rfl⟩ ⟨Nat.le_of_ble_eq_true rfl, Nat.le_of_ble_eq_true rfl⟩ rfl ⟨Nat.zero_le _, Nat.zero_le _⟩ rfl (Nat.le_of_ble_eq_true rfl) dX8_fittest_30 (fun H locs hw => ?_)
      refine r_aload0 C hl 0 rfl dX8_fittest_33 ?_
      refine r_get C hw _ (gx_h mO_o) 9 fl_X8_37 rfl dX8_fittest_34 ?_
      refine r_get C hw _ (gx_t (gx_h tO_o)) 2 fl_X8_105 rfl dX8_fittest_37 ?_
      refine r_iload0 C hl 1 rfl dX8_fittest_40 ?_
      obtain ⟨u3, e3, hf⟩ := bx hf
      refine r_callVi (ws' := (mO G am as_ ar ac an ath ah m_am ++ (tO G an t_an ++ (pO G an p_an ++ [])))) (As := [.int v1]) (rest := [.int u2]) C hw hl.1 kX3_framesBy ml_X8_228 (c_X3_framesBy l G an _ p_an v1 u3 e3) (CutX.skip (CutX.skip (CutX.take pO_f CutX.none))) _ (gx_t (gx_t (gx_h pO_o))) rfl ⟨rfl, rfl⟩ ⟨Nat.le_of_ble_eq_true rfl, Nat.le_of_ble_eq_true rfl⟩ rfl ⟨Nat.zero_le _, Nat.zero_le _⟩ rfl (Nat.le_of_ble_eq_true rfl) dX8_fittest_41 (fun H locs hw => ?_)
      refine lv_icmp_ge (tgt := 49) C.1 C.2.1 dX8_fittest_44 (by decide) (fun hc => ?_) (fun hc => ?_)
      · replace hf := ifp hf hc
        refine r_iinc C hl 2 (v2 + 1) [(2, .int (v2 + 1)), (0, .ref (am 99)), (1, .int v1)] rfl (iinc_e (by decide)) (by decide) rfl dX8_fittest_49 (fun ls hl => ?_)
        refine lv_goto (tgt := 17) C.1 C.2.1 dX8_fittest_52 (by decide) ?_
        exact hk17 m_am v1 (v2 + 1) hf _ _ hw _ (lv_sub hl [1, 2, 0] rfl)
      · replace hf := ifn hf hc
        refine r_iload0 C hl 2 rfl dX8_fittest_47 ?_
        refine r_istore0 C hl [(1, .int v2), (0, .ref (am 99)), (2, .int v2)] (by decide) rfl dX8_fittest_48 (fun ls hl => ?_)
        refine r_iinc C hl 2 (v2 + 1) [(2, .int (v2 + 1)), (1, .int v2), (0, .ref (am 99))] rfl (iinc_e (by decide)) (by decide) rfl dX8_fittest_49 (fun ls hl => ?_)
        refine lv_goto (tgt := 17) C.1 C.2.1 dX8_fittest_52 (by decide) ?_
        exact hk17 m_am v2 (v2 + 1) hf _ _ hw _ (lv_sub hl [2, 1, 0] rfl)
  have hL_17 : ∀ n : Nat, ∀ (m_am : Pic) (v1 : Int32) (v2 : Int32), L_X8_fittest_17 t_an p_an  n m_am v1 v2 = some out → ∀ (H : Heap) (locs : List Loc), Wd G A s H locs (mO G am as_ ar ac an ath ah m_am ++ (tO G an t_an ++ (pO G an p_an ++ []))) → ∀ ls : Array Slot, lv_has ls 3 [(0, .ref (am 99)), (1, .int v1), (2, .int v2)] → W p l e ({ frames := 3, cells := 0, slots := 0, locals := 69 }) s m [.ref (am 99)].toArray below meth c H locs 0 0 (MQ below (Ans G out.1 A (mO G am as_ ar ac an ath ah out.2 ++ (tO G an t_an ++ (pO G an p_an ++ [])))) [.ref (am 99)].toArray s 0 0 A) (F0 m 17 ls []) := by
    intro  n
    induction n with
    | zero => intro m_am v1 v2 hf; cases hf
    | succ n ih => exact hB_17 _ ih
  unfold f_X8_fittest at hf
  refine r_aload0 C hl 0 rfl dX8_fittest_0 ?_
  refine r_get C hw _ (gx_h mO_o) 2 fl_X8_85 rfl dX8_fittest_1 ?_
  refine lv_if_ne (tgt := 13) C.1 C.2.1 dX8_fittest_4 (by decide) (fun hc => ?_) (fun hc => ?_)
  · replace hf := ifn hf hc
    refine lv_iconst (v := 1) C.1 C.2.1 dX8_fittest_13 (by decide) ?_
    refine r_istore0 C hl [(1, .int 1), (0, .ref (am 99))] (by decide) rfl dX8_fittest_14 (fun ls hl => ?_)
    refine lv_iconst (v := 2) C.1 C.2.1 dX8_fittest_15 (by decide) ?_
    refine r_istore0 C hl [(2, .int 2), (1, .int 1), (0, .ref (am 99))] (by decide) rfl dX8_fittest_16 (fun ls hl => ?_)
    exact hL_17  FU m_am 1 2 hf _ _ hw _ (lv_sub hl [2, 1, 0] rfl)
  · replace hf := ifp hf hc
    refine r_aload0 C hl 0 rfl dX8_fittest_7 ?_
    refine lv_iconst (v := 1) C.1 C.2.1 dX8_fittest_8 (by decide) ?_
    obtain ⟨u4, e4, hf⟩ := bx hf
    refine r_callVi (ws' := (mO G am as_ ar ac an ath ah u4.2 ++ (tO G an t_an ++ (pO G an p_an ++ [])))) (As := [.int 1]) (rest := []) C hw hl.1 kX8_refuse ml_X8_63 (c_X8_refuse l G am as_ ar ac an ath ah _ m_am 1 u4 e4) (CutX.take mO_f CutX.none) _ (gx_h mO_o) rfl ⟨rfl, rfl⟩ ⟨Nat.le_of_ble_eq_true rfl, Nat.le_of_ble_eq_true rfl⟩ rfl ⟨Nat.zero_le _, Nat.zero_le _⟩ rfl (Nat.le_of_ble_eq_true rfl) dX8_fittest_9 (fun H locs hw => ?_)
    exact fin_i C hw (Option.some.inj hf) (fun o => o.1) (fun o => (mO G am as_ ar ac an ath ah o.2 ++ (tO G an t_an ++ (pO G an p_an ++ [])))) rfl rfl dX8_fittest_12
set_option maxHeartbeats 4000000 in
set_option maxRecDepth 100000 in
theorem c_X8_zone (l : Launch) (G : GG) (am : Nat → Nat) (as_ : Nat → Nat) (ar : Nat → Nat) (ac : Nat → Nat) (an : Nat → Nat) (ath : Nat → Nat) (ah : Nat → Nat) (sz : Nat) (m_am : Pic) (t_an : Pic) (p_an : Pic) (z_an : Pic) (x1 x2 : Int32) (out : Int32 × Pic) (hf : f_X8_zone m_am t_an p_an z_an x1 x2 = some out) : Met l yX8_zone (.code yX8_zone cX8_zone 4 (some .int) :: BT) ({ frames := 2, cells := 0, slots := 0, locals := 42 }) (va_Pc [.ref (am 99), .int x1, .int x2] (PreW G sz (mO G am as_ ar ac an ath ah m_am ++ (tO G an t_an ++ (pO G an p_an ++ (zO G an z_an ++ [])))))) (Ans G out.1 (va_A (mO G am as_ ar ac an ath ah m_am ++ (tO G an t_an ++ (pO G an p_an ++ (zO G an z_an ++ [])))) sz) (mO G am as_ ar ac an ath ah out.2 ++ (tO G an t_an ++ (pO G an p_an ++ (zO G an z_an ++ []))))) 0 0 (va_A (mO G am as_ ar ac an ath ah m_am ++ (tO G an t_an ++ (pO G an p_an ++ (zO G an z_an ++ [])))) sz) := by
  refine Met.into (by decide) (Nat.le_of_ble_eq_true rfl) ?_
  intro p e s m below meth c C hsz ls hl hw
  have hl : lv_has ls 4 [(0, .ref (am 99)), (1, .int x1), (2, .int x2)] := hl
  clear hsz
  generalize va_A (mO G am as_ ar ac an ath ah m_am ++ (tO G an t_an ++ (pO G an p_an ++ (zO G an z_an ++ [])))) sz = A at hw ⊢
  unfold f_X8_zone at hf
  refine r_aload0 C hl 0 rfl dX8_zone_0 ?_
  refine r_iload0 C hl 1 rfl dX8_zone_1 ?_
  obtain ⟨u1, e1, hf⟩ := bx hf
  refine r_callVi (ws' := (mO G am as_ ar ac an ath ah m_am ++ (tO G an t_an ++ (pO G an p_an ++ (zO G an z_an ++ []))))) (As := [.int x1]) (rest := []) C hw hl.1 kX8_noZone ml_X8_231 (c_X8_noZone l G am as_ ar ac an ath ah _ m_am t_an p_an z_an x1 u1 e1) (CutX.take mO_f (CutX.take tO_f (CutX.take pO_f (CutX.take zO_f CutX.none)))) _ (gx_h mO_o) rfl ⟨rfl, rfl⟩ ⟨Nat.le_of_ble_eq_true rfl, Nat.le_of_ble_eq_true rfl⟩ rfl ⟨Nat.zero_le _, Nat.zero_le _⟩ rfl (Nat.le_of_ble_eq_true rfl) dX8_zone_2 (fun H locs hw => ?_)
  refine lv_if_eq (tgt := 14) C.1 C.2.1 dX8_zone_5 (by decide) (fun hc => ?_) (fun hc => ?_)
  · replace hf := ifp hf hc
    refine r_aload0 C hl 0 rfl dX8_zone_14 ?_
    refine r_get C hw _ (gx_h mO_o) 9 fl_X8_37 rfl dX8_zone_15 ?_
    refine r_get C hw _ (gx_t (gx_h tO_o)) 2 fl_X8_105 rfl dX8_zone_18 ?_
    refine r_get C hw _ (gx_t (gx_t (gx_h pO_o))) 3 fl_X8_120 rfl dX8_zone_21 ?_
    refine r_astore0 C hl [(3, .ref (an 199)), (0, .ref (am 99)), (1, .int x1), (2, .int x2)] (by decide) rfl dX8_zone_24 (fun ls hl => ?_)
    refine r_iload0 C hl 3 rfl dX8_zone_25 ?_
    rcases Decidable.em (x2 = 0) with hc | h0_
    · replace hf := ifp hf hc
      refine lv_tableIn (tgt := 52) C.1 C.2.1 dX8_zone_26 (by rw [hc]; decide) (by rw [hc]; decide) (by rw [hc]; rfl) (by decide) ?_
      refine r_aload0 C hl 1 rfl dX8_zone_52 ?_
      refine r_aload0 C hl 0 rfl dX8_zone_53 ?_
      refine r_get C hw _ (gx_t (gx_t (gx_t (gx_h zO_o)))) 1 fl_X8_234 rfl dX8_zone_54 ?_
      refine r_iload0 C hl 2 rfl dX8_zone_57 ?_
      obtain ⟨v7_, e7, hf⟩ := bx hf
      refine r_iald C hw _ (gx_t (gx_t (gx_t (gx_h zO_g1)))) e7 dX8_zone_58 ?_
      obtain ⟨u8, e8, hf⟩ := bx hf
      refine r_callVi (ws' := (mO G am as_ ar ac an ath ah u8.2 ++ (tO G an t_an ++ (pO G an p_an ++ (zO G an z_an ++ []))))) (As := [.int v7_]) (rest := []) C hw hl.1 kX8_answer ml_X8_99 (c_X8_answer l G am as_ ar ac an ath ah _ m_am v7_ u8 e8) (CutX.take mO_f CutX.none) _ (gx_h mO_o) rfl ⟨rfl, rfl⟩ ⟨Nat.le_of_ble_eq_true rfl, Nat.le_of_ble_eq_true rfl⟩ rfl ⟨Nat.zero_le _, Nat.zero_le _⟩ rfl (Nat.le_of_ble_eq_true rfl) dX8_zone_59 (fun H locs hw => ?_)
      exact fin_i C hw (Option.some.inj hf) (fun o => o.1) (fun o => (mO G am as_ ar ac an ath ah o.2 ++ (tO G an t_an ++ (pO G an p_an ++ (zO G an z_an ++ []))))) rfl rfl dX8_zone_62
    replace hf := ifn hf h0_
    rcases Decidable.em (x2 = 1) with hc | h1_
    · replace hf := ifp hf hc
      refine lv_tableIn (tgt := 63) C.1 C.2.1 dX8_zone_26 (by rw [hc]; decide) (by rw [hc]; decide) (by rw [hc]; rfl) (by decide) ?_
      refine r_aload0 C hl 1 rfl dX8_zone_63 ?_
      refine r_aload0 C hl 0 rfl dX8_zone_64 ?_
      refine r_get C hw _ (gx_t (gx_t (gx_t (gx_h zO_o)))) 2 fl_X8_237 rfl dX8_zone_65 ?_
      refine r_iload0 C hl 2 rfl dX8_zone_68 ?_
      obtain ⟨v5_, e5, hf⟩ := bx hf
      refine r_iald C hw _ (gx_t (gx_t (gx_t (gx_h zO_g2)))) e5 dX8_zone_69 ?_
      obtain ⟨u6, e6, hf⟩ := bx hf
      refine r_callVi (ws' := (mO G am as_ ar ac an ath ah u6.2 ++ (tO G an t_an ++ (pO G an p_an ++ (zO G an z_an ++ []))))) (As := [.int v5_]) (rest := []) C hw hl.1 kX8_answer ml_X8_99 (c_X8_answer l G am as_ ar ac an ath ah _ m_am v5_ u6 e6) (CutX.take mO_f CutX.none) _ (gx_h mO_o) rfl ⟨rfl, rfl⟩ ⟨Nat.le_of_ble_eq_true rfl, Nat.le_of_ble_eq_true rfl⟩ rfl ⟨Nat.zero_le _, Nat.zero_le _⟩ rfl (Nat.le_of_ble_eq_true rfl) dX8_zone_70 (fun H locs hw => ?_)
      exact fin_i C hw (Option.some.inj hf) (fun o => o.1) (fun o => (mO G am as_ ar ac an ath ah o.2 ++ (tO G an t_an ++ (pO G an p_an ++ (zO G an z_an ++ []))))) rfl rfl dX8_zone_73
    replace hf := ifn hf h1_
    rcases Decidable.em (x2 = 2) with hc | h2_
    · replace hf := ifp hf hc
      refine lv_tableIn (tgt := 74) C.1 C.2.1 dX8_zone_26 (by rw [hc]; decide) (by rw [hc]; decide) (by rw [hc]; rfl) (by decide) ?_
      refine r_aload0 C hl 1 rfl dX8_zone_74 ?_
      refine r_aload0 C hl 0 rfl dX8_zone_75 ?_
      refine r_get C hw _ (gx_t (gx_t (gx_t (gx_h zO_o)))) 4 fl_X8_240 rfl dX8_zone_76 ?_
      refine r_iload0 C hl 2 rfl dX8_zone_79 ?_
      obtain ⟨v3_, e3, hf⟩ := bx hf
      refine r_iald C hw _ (gx_t (gx_t (gx_t (gx_h zO_g4)))) e3 dX8_zone_80 ?_
      obtain ⟨u4, e4, hf⟩ := bx hf
      refine r_callVi (ws' := (mO G am as_ ar ac an ath ah u4.2 ++ (tO G an t_an ++ (pO G an p_an ++ (zO G an z_an ++ []))))) (As := [.int v3_]) (rest := []) C hw hl.1 kX8_answer ml_X8_99 (c_X8_answer l G am as_ ar ac an ath ah _ m_am v3_ u4 e4) (CutX.take mO_f CutX.none) _ (gx_h mO_o) rfl ⟨rfl, rfl⟩ ⟨Nat.le_of_ble_eq_true rfl, Nat.le_of_ble_eq_true rfl⟩ rfl ⟨Nat.zero_le _, Nat.zero_le _⟩ rfl (Nat.le_of_ble_eq_true rfl) dX8_zone_81 (fun H locs hw => ?_)
      exact fin_i C hw (Option.some.inj hf) (fun o => o.1) (fun o => (mO G am as_ ar ac an ath ah o.2 ++ (tO G an t_an ++ (pO G an p_an ++ (zO G an z_an ++ []))))) rfl rfl dX8_zone_84
    replace hf := ifn hf h2_
    refine lv_tableOut (tgt := 85) C.1 C.2.1 dX8_zone_26 (sw_out3 h0_ h1_ h2_) (by decide) ?_
    refine r_aload0 C hl 1 rfl dX8_zone_85 ?_
    refine lv_iconst (v := 1) C.1 C.2.1 dX8_zone_86 (by decide) ?_
    obtain ⟨u2, e2, hf⟩ := bx hf
    refine r_callVi (ws' := (mO G am as_ ar ac an ath ah u2.2 ++ (tO G an t_an ++ (pO G an p_an ++ (zO G an z_an ++ []))))) (As := [.int 1]) (rest := []) C hw hl.1 kX8_refuse ml_X8_63 (c_X8_refuse l G am as_ ar ac an ath ah _ m_am 1 u2 e2) (CutX.take mO_f CutX.none) _ (gx_h mO_o) rfl ⟨rfl, rfl⟩ ⟨Nat.le_of_ble_eq_true rfl, Nat.le_of_ble_eq_true rfl⟩ rfl ⟨Nat.zero_le _, Nat.zero_le _⟩ rfl (Nat.le_of_ble_eq_true rfl) dX8_zone_87 (fun H locs hw => ?_)
    exact fin_i C hw (Option.some.inj hf) (fun o => o.1) (fun o => (mO G am as_ ar ac an ath ah o.2 ++ (tO G an t_an ++ (pO G an p_an ++ (zO G an z_an ++ []))))) rfl rfl dX8_zone_90
  · replace hf := ifn hf hc
    refine r_aload0 C hl 0 rfl dX8_zone_8 ?_
    refine lv_iconst (v := 1) C.1 C.2.1 dX8_zone_9 (by decide) ?_
    obtain ⟨u9, e9, hf⟩ := bx hf
    refine r_callVi (ws' := (mO G am as_ ar ac an ath ah u9.2 ++ (tO G an t_an ++ (pO G an p_an ++ (zO G an z_an ++ []))))) (As := [.int 1]) (rest := []) C hw hl.1 kX8_refuse ml_X8_63 (c_X8_refuse l G am as_ ar ac an ath ah _ m_am 1 u9 e9) (CutX.take mO_f CutX.none) _ (gx_h mO_o) rfl ⟨rfl, rfl⟩ ⟨Nat.le_of_ble_eq_true rfl, Nat.le_of_ble_eq_true rfl⟩ rfl ⟨Nat.zero_le _, Nat.zero_le _⟩ rfl (Nat.le_of_ble_eq_true rfl) dX8_zone_10 (fun H locs hw => ?_)
    exact fin_i C hw (Option.some.inj hf) (fun o => o.1) (fun o => (mO G am as_ ar ac an ath ah o.2 ++ (tO G an t_an ++ (pO G an p_an ++ (zO G an z_an ++ []))))) rfl rfl dX8_zone_13
set_option maxHeartbeats 4000000 in
set_option maxRecDepth 100000 in
theorem c_X8_slot (l : Launch) (G : GG) (am : Nat → Nat) (as_ : Nat → Nat) (ar : Nat → Nat) (ac : Nat → Nat) (an : Nat → Nat) (ath : Nat → Nat) (ah : Nat → Nat) (sz : Nat) (m_am : Pic) (t_an : Pic) (p_an : Pic) (z_an : Pic) (x1 x2 : Int32) (out : Int32 × Pic) (hf : f_X8_slot m_am t_an p_an z_an x1 x2 = some out) : Met l yX8_slot (.code yX8_slot cX8_slot 3 (some .int) :: BT) ({ frames := 2, cells := 0, slots := 0, locals := 42 }) (va_Pc [.ref (am 99), .int x1, .int x2] (PreW G sz (mO G am as_ ar ac an ath ah m_am ++ (tO G an t_an ++ (pO G an p_an ++ (zO G an z_an ++ [])))))) (Ans G out.1 (va_A (mO G am as_ ar ac an ath ah m_am ++ (tO G an t_an ++ (pO G an p_an ++ (zO G an z_an ++ [])))) sz) (mO G am as_ ar ac an ath ah out.2 ++ (tO G an t_an ++ (pO G an p_an ++ (zO G an z_an ++ []))))) 0 0 (va_A (mO G am as_ ar ac an ath ah m_am ++ (tO G an t_an ++ (pO G an p_an ++ (zO G an z_an ++ [])))) sz) := by
  refine Met.into (by decide) (Nat.le_of_ble_eq_true rfl) ?_
  intro p e s m below meth c C hsz ls hl hw
  have hl : lv_has ls 3 [(0, .ref (am 99)), (1, .int x1), (2, .int x2)] := hl
  clear hsz
  generalize va_A (mO G am as_ ar ac an ath ah m_am ++ (tO G an t_an ++ (pO G an p_an ++ (zO G an z_an ++ [])))) sz = A at hw ⊢
  have hB_37 : ∀ (m_am : Pic), b_X8_slot_37 t_an p_an z_an x1 x2  m_am = some out → ∀ (H : Heap) (locs : List Loc), Wd G A s H locs (mO G am as_ ar ac an ath ah m_am ++ (tO G an t_an ++ (pO G an p_an ++ (zO G an z_an ++ [])))) → ∀ ls : Array Slot, lv_has ls 3 [(0, .ref (am 99))] → W p l e ({ frames := 2, cells := 0, slots := 0, locals := 42 }) s m [.ref (am 99), .int x1, .int x2].toArray below meth c H locs 0 0 (MQ below (Ans G out.1 A (mO G am as_ ar ac an ath ah out.2 ++ (tO G an t_an ++ (pO G an p_an ++ (zO G an z_an ++ []))))) [.ref (am 99), .int x1, .int x2].toArray s 0 0 A) (F0 m 37 ls []) := by
    intro m_am hf H locs hw ls hl
    unfold b_X8_slot_37 at hf
    refine r_aload0 C hl 0 rfl dX8_slot_37 ?_
    refine lv_iconst (v := 1) C.1 C.2.1 dX8_slot_38 (by decide) ?_
    obtain ⟨u2, e2, hf⟩ := bx hf
    refine r_callVi (ws' := (mO G am as_ ar ac an ath ah u2.2 ++ (tO G an t_an ++ (pO G an p_an ++ (zO G an z_an ++ []))))) (As := [.int 1]) (rest := []) C hw hl.1 kX8_refuse ml_X8_63 (c_X8_refuse l G am as_ ar ac an ath ah _ m_am 1 u2 e2) (CutX.take mO_f CutX.none) _ (gx_h mO_o) rfl ⟨rfl, rfl⟩ ⟨Nat.le_of_ble_eq_true rfl, Nat.le_of_ble_eq_true rfl⟩ rfl ⟨Nat.zero_le _, Nat.zero_le _⟩ rfl (Nat.le_of_ble_eq_true rfl) dX8_slot_39 (fun H locs hw => ?_)
    exact fin_i C hw (Option.some.inj hf) (fun o => o.1) (fun o => (mO G am as_ ar ac an ath ah o.2 ++ (tO G an t_an ++ (pO G an p_an ++ (zO G an z_an ++ []))))) rfl rfl dX8_slot_42
  unfold f_X8_slot at hf
  refine r_aload0 C hl 0 rfl dX8_slot_0 ?_
  refine r_iload0 C hl 1 rfl dX8_slot_1 ?_
  obtain ⟨u1, e1, hf⟩ := bx hf
  refine r_callVi (ws' := (mO G am as_ ar ac an ath ah m_am ++ (tO G an t_an ++ (pO G an p_an ++ (zO G an z_an ++ []))))) (As := [.int x1]) (rest := []) C hw hl.1 kX8_noZone ml_X8_231 (c_X8_noZone l G am as_ ar ac an ath ah _ m_am t_an p_an z_an x1 u1 e1) (CutX.take mO_f (CutX.take tO_f (CutX.take pO_f (CutX.take zO_f CutX.none)))) _ (gx_h mO_o) rfl ⟨rfl, rfl⟩ ⟨Nat.le_of_ble_eq_true rfl, Nat.le_of_ble_eq_true rfl⟩ rfl ⟨Nat.zero_le _, Nat.zero_le _⟩ rfl (Nat.le_of_ble_eq_true rfl) dX8_slot_2 (fun H locs hw => ?_)
  refine lv_if_ne (tgt := 37) C.1 C.2.1 dX8_slot_5 (by decide) (fun hc => ?_) (fun hc => ?_)
  · replace hf := ifn hf hc
    exact hB_37  m_am hf _ _ hw _ (lv_sub hl [0] rfl)
  · replace hf := ifp hf hc
    refine r_iload0 C hl 2 rfl dX8_slot_8 ?_
    refine lv_if_lt (tgt := 37) C.1 C.2.1 dX8_slot_9 (by decide) (fun hc => ?_) (fun hc => ?_)
    · replace hf := ifp hf hc
      exact hB_37  m_am hf _ _ hw _ (lv_sub hl [0] rfl)
    · replace hf := ifn hf hc
      refine r_iload0 C hl 2 rfl dX8_slot_12 ?_
      refine r_aload0 C hl 0 rfl dX8_slot_13 ?_
      refine r_get C hw _ (gx_h mO_o) 9 fl_X8_37 rfl dX8_slot_14 ?_
      refine r_get C hw _ (gx_t (gx_h tO_o)) 2 fl_X8_105 rfl dX8_slot_17 ?_
      refine r_get C hw _ (gx_t (gx_t (gx_h pO_o))) 3 fl_X8_120 rfl dX8_slot_20 ?_
      refine r_get C hw _ (gx_t (gx_t (gx_t (gx_h zO_o)))) 3 fl_X8_241 rfl dX8_slot_23 ?_
      refine r_iload0 C hl 1 rfl dX8_slot_26 ?_
      obtain ⟨v3_, e3, hf⟩ := bx hf
      refine r_iald C hw _ (gx_t (gx_t (gx_t (gx_h zO_g3)))) e3 dX8_slot_27 ?_
      refine lv_icmp_ge (tgt := 37) C.1 C.2.1 dX8_slot_28 (by decide) (fun hc => ?_) (fun hc => ?_)
      · replace hf := ifp hf hc
        exact hB_37  m_am hf _ _ hw _ (lv_sub hl [0] rfl)
      · replace hf := ifn hf hc
        refine r_iload0 C hl 2 rfl dX8_slot_31 ?_
        refine lv_bipush (v := 16) C.1 C.2.1 dX8_slot_32 (by decide) ?_
        refine lv_icmp_lt (tgt := 43) C.1 C.2.1 dX8_slot_34 (by decide) (fun hc => ?_) (fun hc => ?_)
        · replace hf := ifp hf hc
          refine r_aload0 C hl 0 rfl dX8_slot_43 ?_
          refine r_aload0 C hl 0 rfl dX8_slot_44 ?_
          refine r_get C hw _ (gx_h mO_o) 9 fl_X8_37 rfl dX8_slot_45 ?_
          refine r_get C hw _ (gx_t (gx_h tO_o)) 2 fl_X8_105 rfl dX8_slot_48 ?_
          refine r_get C hw _ (gx_t (gx_t (gx_h pO_o))) 3 fl_X8_120 rfl dX8_slot_51 ?_
          refine r_get C hw _ (gx_t (gx_t (gx_t (gx_h zO_o)))) 5 fl_X8_244 rfl dX8_slot_54 ?_
          refine r_iload0 C hl 1 rfl dX8_slot_57 ?_
          refine lv_bipush (v := 16) C.1 C.2.1 dX8_slot_58 (by decide) ?_
          refine lv_imul C.1 C.2.1 dX8_slot_60 ?_
          refine r_iload0 C hl 2 rfl dX8_slot_61 ?_
          refine lv_iadd C.1 C.2.1 dX8_slot_62 ?_
          obtain ⟨v4_, e4, hf⟩ := bx hf
          refine r_iald C hw _ (gx_t (gx_t (gx_t (gx_h zO_g5)))) e4 dX8_slot_63 ?_
          obtain ⟨u5, e5, hf⟩ := bx hf
          refine r_callVi (ws' := (mO G am as_ ar ac an ath ah u5.2 ++ (tO G an t_an ++ (pO G an p_an ++ (zO G an z_an ++ []))))) (As := [.int v4_]) (rest := []) C hw hl.1 kX8_answer ml_X8_99 (c_X8_answer l G am as_ ar ac an ath ah _ m_am v4_ u5 e5) (CutX.take mO_f CutX.none) _ (gx_h mO_o) rfl ⟨rfl, rfl⟩ ⟨Nat.le_of_ble_eq_true rfl, Nat.le_of_ble_eq_true rfl⟩ rfl ⟨Nat.zero_le _, Nat.zero_le _⟩ rfl (Nat.le_of_ble_eq_true rfl) dX8_slot_64 (fun H locs hw => ?_)
          exact fin_i C hw (Option.some.inj hf) (fun o => o.1) (fun o => (mO G am as_ ar ac an ath ah o.2 ++ (tO G an t_an ++ (pO G an p_an ++ (zO G an z_an ++ []))))) rfl rfl dX8_slot_67
        · replace hf := ifn hf hc
          exact hB_37  m_am hf _ _ hw _ (lv_sub hl [0] rfl)
set_option maxHeartbeats 4000000 in
set_option maxRecDepth 100000 in
theorem c_X8_page (l : Launch) (G : GG) (am : Nat → Nat) (as_ : Nat → Nat) (ar : Nat → Nat) (ac : Nat → Nat) (an : Nat → Nat) (ath : Nat → Nat) (ah : Nat → Nat) (sz : Nat) (m_am : Pic) (t_an : Pic) (p_an : Pic) (x1 : Int32) (out : Int32 × Pic) (hf : f_X8_page m_am t_an p_an x1 = some out) : Met l yX8_page (.code yX8_page cX8_page 2 (some .int) :: BT) ({ frames := 1, cells := 0, slots := 0, locals := 21 }) (va_Pc [.ref (am 99), .int x1] (PreW G sz (mO G am as_ ar ac an ath ah m_am ++ (tO G an t_an ++ (pO G an p_an ++ []))))) (Ans G out.1 (va_A (mO G am as_ ar ac an ath ah m_am ++ (tO G an t_an ++ (pO G an p_an ++ []))) sz) (mO G am as_ ar ac an ath ah out.2 ++ (tO G an t_an ++ (pO G an p_an ++ [])))) 0 0 (va_A (mO G am as_ ar ac an ath ah m_am ++ (tO G an t_an ++ (pO G an p_an ++ []))) sz) := by
  refine Met.into (by decide) (Nat.le_of_ble_eq_true rfl) ?_
  intro p e s m below meth c C hsz ls hl hw
  have hl : lv_has ls 2 [(0, .ref (am 99)), (1, .int x1)] := hl
  clear hsz
  generalize va_A (mO G am as_ ar ac an ath ah m_am ++ (tO G an t_an ++ (pO G an p_an ++ []))) sz = A at hw ⊢
  unfold f_X8_page at hf
  refine r_aload0 C hl 0 rfl dX8_page_0 ?_
  refine r_iload0 C hl 1 rfl dX8_page_1 ?_
  obtain ⟨u1, e1, hf⟩ := bx hf
  refine r_callVi (ws' := (mO G am as_ ar ac an ath ah m_am ++ (tO G an t_an ++ (pO G an p_an ++ [])))) (As := [.int x1]) (rest := []) C hw hl.1 kX8_noPage ml_X8_247 (c_X8_noPage l G am as_ ar ac an ath ah _ m_am x1 u1 e1) (CutX.take mO_f CutX.none) _ (gx_h mO_o) rfl ⟨rfl, rfl⟩ ⟨Nat.le_of_ble_eq_true rfl, Nat.le_of_ble_eq_true rfl⟩ rfl ⟨Nat.zero_le _, Nat.zero_le _⟩ rfl (Nat.le_of_ble_eq_true rfl) dX8_page_2 (fun H locs hw => ?_)
  refine lv_if_eq (tgt := 14) C.1 C.2.1 dX8_page_5 (by decide) (fun hc => ?_) (fun hc => ?_)
  · replace hf := ifp hf hc
    refine r_aload0 C hl 0 rfl dX8_page_14 ?_
    refine r_aload0 C hl 0 rfl dX8_page_15 ?_
    refine r_get C hw _ (gx_h mO_o) 9 fl_X8_37 rfl dX8_page_16 ?_
    refine r_get C hw _ (gx_t (gx_h tO_o)) 2 fl_X8_105 rfl dX8_page_19 ?_
    refine r_get C hw _ (gx_t (gx_t (gx_h pO_o))) 4 fl_X8_250 rfl dX8_page_22 ?_
    refine r_iload0 C hl 1 rfl dX8_page_25 ?_
    obtain ⟨v2_, e2, hf⟩ := bx hf
    refine r_iald C hw _ (gx_t (gx_t (gx_h pO_g4))) e2 dX8_page_26 ?_
    obtain ⟨u3, e3, hf⟩ := bx hf
    refine r_callVi (ws' := (mO G am as_ ar ac an ath ah u3.2 ++ (tO G an t_an ++ (pO G an p_an ++ [])))) (As := [.int v2_]) (rest := []) C hw hl.1 kX8_answer ml_X8_99 (c_X8_answer l G am as_ ar ac an ath ah _ m_am v2_ u3 e3) (CutX.take mO_f CutX.none) _ (gx_h mO_o) rfl ⟨rfl, rfl⟩ ⟨Nat.le_of_ble_eq_true rfl, Nat.le_of_ble_eq_true rfl⟩ rfl ⟨Nat.zero_le _, Nat.zero_le _⟩ rfl (Nat.le_of_ble_eq_true rfl) dX8_page_27 (fun H locs hw => ?_)
    exact fin_i C hw (Option.some.inj hf) (fun o => o.1) (fun o => (mO G am as_ ar ac an ath ah o.2 ++ (tO G an t_an ++ (pO G an p_an ++ [])))) rfl rfl dX8_page_30
  · replace hf := ifn hf hc
    refine r_aload0 C hl 0 rfl dX8_page_8 ?_
    refine lv_iconst (v := 1) C.1 C.2.1 dX8_page_9 (by decide) ?_
    obtain ⟨u4, e4, hf⟩ := bx hf
    refine r_callVi (ws' := (mO G am as_ ar ac an ath ah u4.2 ++ (tO G an t_an ++ (pO G an p_an ++ [])))) (As := [.int 1]) (rest := []) C hw hl.1 kX8_refuse ml_X8_63 (c_X8_refuse l G am as_ ar ac an ath ah _ m_am 1 u4 e4) (CutX.take mO_f CutX.none) _ (gx_h mO_o) rfl ⟨rfl, rfl⟩ ⟨Nat.le_of_ble_eq_true rfl, Nat.le_of_ble_eq_true rfl⟩ rfl ⟨Nat.zero_le _, Nat.zero_le _⟩ rfl (Nat.le_of_ble_eq_true rfl) dX8_page_10 (fun H locs hw => ?_)
    exact fin_i C hw (Option.some.inj hf) (fun o => o.1) (fun o => (mO G am as_ ar ac an ath ah o.2 ++ (tO G an t_an ++ (pO G an p_an ++ [])))) rfl rfl dX8_page_13
set_option maxHeartbeats 4000000 in
set_option maxRecDepth 100000 in
theorem c_X8_pooled (l : Launch) (G : GG) (am : Nat → Nat) (as_ : Nat → Nat) (ar : Nat → Nat) (ac : Nat → Nat) (an : Nat → Nat) (ath : Nat → Nat) (ah : Nat → Nat) (sz : Nat) (m_am : Pic) (t_an : Pic) (p_an : Pic) (x1 x2 : Int32) (out : Int32 × Pic) (hf : f_X8_pooled m_am t_an p_an x1 x2 = some out) : Met l yX8_pooled (.code yX8_pooled cX8_pooled 4 (some .int) :: BT) ({ frames := 1, cells := 0, slots := 0, locals := 22 }) (va_Pc [.ref (am 99), .int x1, .int x2] (PreW G sz (mO G am as_ ar ac an ath ah m_am ++ (tO G an t_an ++ (pO G an p_an ++ []))))) (Ans G out.1 (va_A (mO G am as_ ar ac an ath ah m_am ++ (tO G an t_an ++ (pO G an p_an ++ []))) sz) (mO G am as_ ar ac an ath ah out.2 ++ (tO G an t_an ++ (pO G an p_an ++ [])))) 0 0 (va_A (mO G am as_ ar ac an ath ah m_am ++ (tO G an t_an ++ (pO G an p_an ++ []))) sz) := by
  refine Met.into (by decide) (Nat.le_of_ble_eq_true rfl) ?_
  intro p e s m below meth c C hsz ls hl hw
  have hl : lv_has ls 4 [(0, .ref (am 99)), (1, .int x1), (2, .int x2)] := hl
  clear hsz
  generalize va_A (mO G am as_ ar ac an ath ah m_am ++ (tO G an t_an ++ (pO G an p_an ++ []))) sz = A at hw ⊢
  have hB_17 : ∀ (m_am : Pic), b_X8_pooled_17 t_an p_an x1 x2  m_am = some out → ∀ (H : Heap) (locs : List Loc), Wd G A s H locs (mO G am as_ ar ac an ath ah m_am ++ (tO G an t_an ++ (pO G an p_an ++ []))) → ∀ ls : Array Slot, lv_has ls 4 [(0, .ref (am 99))] → W p l e ({ frames := 1, cells := 0, slots := 0, locals := 22 }) s m [.ref (am 99), .int x1, .int x2].toArray below meth c H locs 0 0 (MQ below (Ans G out.1 A (mO G am as_ ar ac an ath ah out.2 ++ (tO G an t_an ++ (pO G an p_an ++ [])))) [.ref (am 99), .int x1, .int x2].toArray s 0 0 A) (F0 m 17 ls []) := by
    intro m_am hf H locs hw ls hl
    unfold b_X8_pooled_17 at hf
    refine r_aload0 C hl 0 rfl dX8_pooled_17 ?_
    refine lv_iconst (v := 1) C.1 C.2.1 dX8_pooled_18 (by decide) ?_
    obtain ⟨u2, e2, hf⟩ := bx hf
    refine r_callVi (ws' := (mO G am as_ ar ac an ath ah u2.2 ++ (tO G an t_an ++ (pO G an p_an ++ [])))) (As := [.int 1]) (rest := []) C hw hl.1 kX8_refuse ml_X8_63 (c_X8_refuse l G am as_ ar ac an ath ah _ m_am 1 u2 e2) (CutX.take mO_f CutX.none) _ (gx_h mO_o) rfl ⟨rfl, rfl⟩ ⟨Nat.le_of_ble_eq_true rfl, Nat.le_of_ble_eq_true rfl⟩ rfl ⟨Nat.zero_le _, Nat.zero_le _⟩ rfl (Nat.le_of_ble_eq_true rfl) dX8_pooled_19 (fun H locs hw => ?_)
    exact fin_i C hw (Option.some.inj hf) (fun o => o.1) (fun o => (mO G am as_ ar ac an ath ah o.2 ++ (tO G an t_an ++ (pO G an p_an ++ [])))) rfl rfl dX8_pooled_22
  unfold f_X8_pooled at hf
  refine r_aload0 C hl 0 rfl dX8_pooled_0 ?_
  refine r_iload0 C hl 1 rfl dX8_pooled_1 ?_
  obtain ⟨u1, e1, hf⟩ := bx hf
  refine r_callVi (ws' := (mO G am as_ ar ac an ath ah m_am ++ (tO G an t_an ++ (pO G an p_an ++ [])))) (As := [.int x1]) (rest := []) C hw hl.1 kX8_noPage ml_X8_247 (c_X8_noPage l G am as_ ar ac an ath ah _ m_am x1 u1 e1) (CutX.take mO_f CutX.none) _ (gx_h mO_o) rfl ⟨rfl, rfl⟩ ⟨Nat.le_of_ble_eq_true rfl, Nat.le_of_ble_eq_true rfl⟩ rfl ⟨Nat.zero_le _, Nat.zero_le _⟩ rfl (Nat.le_of_ble_eq_true rfl) dX8_pooled_2 (fun H locs hw => ?_)
  refine lv_if_ne (tgt := 17) C.1 C.2.1 dX8_pooled_5 (by decide) (fun hc => ?_) (fun hc => ?_)
  · replace hf := ifn hf hc
    exact hB_17  m_am hf _ _ hw _ (lv_sub hl [0] rfl)
  · replace hf := ifp hf hc
    refine r_iload0 C hl 2 rfl dX8_pooled_8 ?_
    refine lv_if_lt (tgt := 17) C.1 C.2.1 dX8_pooled_9 (by decide) (fun hc => ?_) (fun hc => ?_)
    · replace hf := ifp hf hc
      exact hB_17  m_am hf _ _ hw _ (lv_sub hl [0] rfl)
    · replace hf := ifn hf hc
      refine r_iload0 C hl 2 rfl dX8_pooled_12 ?_
      refine lv_iconst (v := 4) C.1 C.2.1 dX8_pooled_13 (by decide) ?_
      refine lv_icmp_le (tgt := 23) C.1 C.2.1 dX8_pooled_14 (by decide) (fun hc => ?_) (fun hc => ?_)
      · replace hf := ifp hf hc
        refine r_aload0 C hl 0 rfl dX8_pooled_23 ?_
        refine r_get C hw _ (gx_h mO_o) 9 fl_X8_37 rfl dX8_pooled_24 ?_
        refine r_get C hw _ (gx_t (gx_h tO_o)) 2 fl_X8_105 rfl dX8_pooled_27 ?_
        refine r_astore0 C hl [(3, .ref (an 99)), (0, .ref (am 99)), (1, .int x1), (2, .int x2)] (by decide) rfl dX8_pooled_30 (fun ls hl => ?_)
        refine r_aload0 C hl 0 rfl dX8_pooled_31 ?_
        refine r_get C hw _ (gx_t (gx_t (gx_h pO_o))) 4 fl_X8_250 rfl dX8_pooled_32 ?_
        refine r_iload0 C hl 2 rfl dX8_pooled_35 ?_
        obtain ⟨v3_, e3, hf⟩ := bx hf
        refine r_iald C hw _ (gx_t (gx_t (gx_h pO_g4))) e3 dX8_pooled_36 ?_
        refine lv_iconst (v := 2) C.1 C.2.1 dX8_pooled_37 (by decide) ?_
        refine lv_icmp_eq (tgt := 47) C.1 C.2.1 dX8_pooled_38 (by decide) (fun hc => ?_) (fun hc => ?_)
        · replace hf := ifp hf hc
          refine r_iload0 C hl 3 rfl dX8_pooled_47 ?_
          rcases Decidable.em (x2 = 0) with hc | h0_
          · replace hf := ifp hf hc
            refine lv_tableIn (tgt := 80) C.1 C.2.1 dX8_pooled_48 (by rw [hc]; decide) (by rw [hc]; decide) (by rw [hc]; rfl) (by decide) ?_
            refine r_aload0 C hl 1 rfl dX8_pooled_80 ?_
            refine r_aload0 C hl 0 rfl dX8_pooled_81 ?_
            refine r_get C hw _ (gx_t (gx_t (gx_h pO_o))) 5 fl_X8_253 rfl dX8_pooled_82 ?_
            refine r_iload0 C hl 2 rfl dX8_pooled_85 ?_
            obtain ⟨v12_, e12, hf⟩ := bx hf
            refine r_iald C hw _ (gx_t (gx_t (gx_h pO_g5))) e12 dX8_pooled_86 ?_
            obtain ⟨u13, e13, hf⟩ := bx hf
            refine r_callVi (ws' := (mO G am as_ ar ac an ath ah u13.2 ++ (tO G an t_an ++ (pO G an p_an ++ [])))) (As := [.int v12_]) (rest := []) C hw hl.1 kX8_answer ml_X8_99 (c_X8_answer l G am as_ ar ac an ath ah _ m_am v12_ u13 e13) (CutX.take mO_f CutX.none) _ (gx_h mO_o) rfl ⟨rfl, rfl⟩ ⟨Nat.le_of_ble_eq_true rfl, Nat.le_of_ble_eq_true rfl⟩ rfl ⟨Nat.zero_le _, Nat.zero_le _⟩ rfl (Nat.le_of_ble_eq_true rfl) dX8_pooled_87 (fun H locs hw => ?_)
            exact fin_i C hw (Option.some.inj hf) (fun o => o.1) (fun o => (mO G am as_ ar ac an ath ah o.2 ++ (tO G an t_an ++ (pO G an p_an ++ [])))) rfl rfl dX8_pooled_90
          replace hf := ifn hf h0_
          rcases Decidable.em (x2 = 1) with hc | h1_
          · replace hf := ifp hf hc
            refine lv_tableIn (tgt := 91) C.1 C.2.1 dX8_pooled_48 (by rw [hc]; decide) (by rw [hc]; decide) (by rw [hc]; rfl) (by decide) ?_
            refine r_aload0 C hl 1 rfl dX8_pooled_91 ?_
            refine r_aload0 C hl 0 rfl dX8_pooled_92 ?_
            refine r_get C hw _ (gx_t (gx_t (gx_h pO_o))) 6 fl_X8_254 rfl dX8_pooled_93 ?_
            refine r_iload0 C hl 2 rfl dX8_pooled_96 ?_
            obtain ⟨v10_, e10, hf⟩ := bx hf
            refine r_iald C hw _ (gx_t (gx_t (gx_h pO_g6))) e10 dX8_pooled_97 ?_
            obtain ⟨u11, e11, hf⟩ := bx hf
            refine r_callVi (ws' := (mO G am as_ ar ac an ath ah u11.2 ++ (tO G an t_an ++ (pO G an p_an ++ [])))) (As := [.int v10_]) (rest := []) C hw hl.1 kX8_answer ml_X8_99 (c_X8_answer l G am as_ ar ac an ath ah _ m_am v10_ u11 e11) (CutX.take mO_f CutX.none) _ (gx_h mO_o) rfl ⟨rfl, rfl⟩ ⟨Nat.le_of_ble_eq_true rfl, Nat.le_of_ble_eq_true rfl⟩ rfl ⟨Nat.zero_le _, Nat.zero_le _⟩ rfl (Nat.le_of_ble_eq_true rfl) dX8_pooled_98 (fun H locs hw => ?_)
            exact fin_i C hw (Option.some.inj hf) (fun o => o.1) (fun o => (mO G am as_ ar ac an ath ah o.2 ++ (tO G an t_an ++ (pO G an p_an ++ [])))) rfl rfl dX8_pooled_101
          replace hf := ifn hf h1_
          rcases Decidable.em (x2 = 2) with hc | h2_
          · replace hf := ifp hf hc
            refine lv_tableIn (tgt := 102) C.1 C.2.1 dX8_pooled_48 (by rw [hc]; decide) (by rw [hc]; decide) (by rw [hc]; rfl) (by decide) ?_
            refine r_aload0 C hl 1 rfl dX8_pooled_102 ?_
            refine r_aload0 C hl 0 rfl dX8_pooled_103 ?_
            refine r_get C hw _ (gx_t (gx_t (gx_h pO_o))) 7 fl_X8_257 rfl dX8_pooled_104 ?_
            refine r_iload0 C hl 2 rfl dX8_pooled_107 ?_
            obtain ⟨v8_, e8, hf⟩ := bx hf
            refine r_iald C hw _ (gx_t (gx_t (gx_h pO_g7))) e8 dX8_pooled_108 ?_
            obtain ⟨u9, e9, hf⟩ := bx hf
            refine r_callVi (ws' := (mO G am as_ ar ac an ath ah u9.2 ++ (tO G an t_an ++ (pO G an p_an ++ [])))) (As := [.int v8_]) (rest := []) C hw hl.1 kX8_answer ml_X8_99 (c_X8_answer l G am as_ ar ac an ath ah _ m_am v8_ u9 e9) (CutX.take mO_f CutX.none) _ (gx_h mO_o) rfl ⟨rfl, rfl⟩ ⟨Nat.le_of_ble_eq_true rfl, Nat.le_of_ble_eq_true rfl⟩ rfl ⟨Nat.zero_le _, Nat.zero_le _⟩ rfl (Nat.le_of_ble_eq_true rfl) dX8_pooled_109 (fun H locs hw => ?_)
            exact fin_i C hw (Option.some.inj hf) (fun o => o.1) (fun o => (mO G am as_ ar ac an ath ah o.2 ++ (tO G an t_an ++ (pO G an p_an ++ [])))) rfl rfl dX8_pooled_112
          replace hf := ifn hf h2_
          rcases Decidable.em (x2 = 3) with hc | h3_
          · replace hf := ifp hf hc
            refine lv_tableIn (tgt := 113) C.1 C.2.1 dX8_pooled_48 (by rw [hc]; decide) (by rw [hc]; decide) (by rw [hc]; rfl) (by decide) ?_
            refine r_aload0 C hl 1 rfl dX8_pooled_113 ?_
            refine r_aload0 C hl 0 rfl dX8_pooled_114 ?_
            refine r_iload0 C hl 2 rfl dX8_pooled_115 ?_
            obtain ⟨u6, e6, hf⟩ := bx hf
            refine r_callVi (ws' := (mO G am as_ ar ac an ath ah m_am ++ (tO G an t_an ++ (pO G an p_an ++ [])))) (As := [.int x1]) (rest := [.ref (am 99)]) C hw hl.1 kX3_ageOf ml_X8_260 (c_X3_ageOf l G an _ p_an x1 u6 e6) (CutX.skip (CutX.skip (CutX.take pO_f CutX.none))) _ (gx_t (gx_t (gx_h pO_o))) rfl ⟨rfl, rfl⟩ ⟨Nat.le_of_ble_eq_true rfl, Nat.le_of_ble_eq_true rfl⟩ rfl ⟨Nat.zero_le _, Nat.zero_le _⟩ rfl (Nat.le_of_ble_eq_true rfl) dX8_pooled_116 (fun H locs hw => ?_)
            obtain ⟨u7, e7, hf⟩ := bx hf
            refine r_callVi (ws' := (mO G am as_ ar ac an ath ah u7.2 ++ (tO G an t_an ++ (pO G an p_an ++ [])))) (As := [.int u6]) (rest := []) C hw hl.1 kX8_answer ml_X8_99 (c_X8_answer l G am as_ ar ac an ath ah _ m_am u6 u7 e7) (CutX.take mO_f CutX.none) _ (gx_h mO_o) rfl ⟨rfl, rfl⟩ ⟨Nat.le_of_ble_eq_true rfl, Nat.le_of_ble_eq_true rfl⟩ rfl ⟨Nat.zero_le _, Nat.zero_le _⟩ rfl (Nat.le_of_ble_eq_true rfl) dX8_pooled_119 (fun H locs hw => ?_)
            exact fin_i C hw (Option.some.inj hf) (fun o => o.1) (fun o => (mO G am as_ ar ac an ath ah o.2 ++ (tO G an t_an ++ (pO G an p_an ++ [])))) rfl rfl dX8_pooled_122
          replace hf := ifn hf h3_
          refine lv_tableOut (tgt := 123) C.1 C.2.1 dX8_pooled_48 (sw_out4 h0_ h1_ h2_ h3_) (by decide) ?_
          refine r_aload0 C hl 1 rfl dX8_pooled_123 ?_
          refine r_aload0 C hl 0 rfl dX8_pooled_124 ?_
          refine r_get C hw _ (gx_t (gx_t (gx_h pO_o))) 8 fl_X8_263 rfl dX8_pooled_125 ?_
          refine r_iload0 C hl 2 rfl dX8_pooled_128 ?_
          obtain ⟨v4_, e4, hf⟩ := bx hf
          refine r_iald C hw _ (gx_t (gx_t (gx_h pO_g8))) e4 dX8_pooled_129 ?_
          obtain ⟨u5, e5, hf⟩ := bx hf
          refine r_callVi (ws' := (mO G am as_ ar ac an ath ah u5.2 ++ (tO G an t_an ++ (pO G an p_an ++ [])))) (As := [.int v4_]) (rest := []) C hw hl.1 kX8_answer ml_X8_99 (c_X8_answer l G am as_ ar ac an ath ah _ m_am v4_ u5 e5) (CutX.take mO_f CutX.none) _ (gx_h mO_o) rfl ⟨rfl, rfl⟩ ⟨Nat.le_of_ble_eq_true rfl, Nat.le_of_ble_eq_true rfl⟩ rfl ⟨Nat.zero_le _, Nat.zero_le _⟩ rfl (Nat.le_of_ble_eq_true rfl) dX8_pooled_130 (fun H locs hw => ?_)
          exact fin_i C hw (Option.some.inj hf) (fun o => o.1) (fun o => (mO G am as_ ar ac an ath ah o.2 ++ (tO G an t_an ++ (pO G an p_an ++ [])))) rfl rfl dX8_pooled_133
        · replace hf := ifn hf hc
          refine r_aload0 C hl 1 rfl dX8_pooled_41 ?_
          refine lv_iconst (v := 5) C.1 C.2.1 dX8_pooled_42 (by decide) ?_
          obtain ⟨u14, e14, hf⟩ := bx hf
          refine r_callVi (ws' := (mO G am as_ ar ac an ath ah u14.2 ++ (tO G an t_an ++ (pO G an p_an ++ [])))) (As := [.int 5]) (rest := []) C hw hl.1 kX8_refuse ml_X8_63 (c_X8_refuse l G am as_ ar ac an ath ah _ m_am 5 u14 e14) (CutX.take mO_f CutX.none) _ (gx_h mO_o) rfl ⟨rfl, rfl⟩ ⟨Nat.le_of_ble_eq_true rfl, Nat.le_of_ble_eq_true rfl⟩ rfl ⟨Nat.zero_le _, Nat.zero_le _⟩ rfl (Nat.le_of_ble_eq_true rfl) dX8_pooled_43 (fun H locs hw => ?_)
          exact fin_i C hw (Option.some.inj hf) (fun o => o.1) (fun o => (mO G am as_ ar ac an ath ah o.2 ++ (tO G an t_an ++ (pO G an p_an ++ [])))) rfl rfl dX8_pooled_46
      · replace hf := ifn hf hc
        exact hB_17  m_am hf _ _ hw _ (lv_sub hl [0] rfl)
set_option maxHeartbeats 4000000 in
set_option maxRecDepth 100000 in
theorem c_X8_read (l : Launch) (G : GG) (am : Nat → Nat) (as_ : Nat → Nat) (ar : Nat → Nat) (ac : Nat → Nat) (an : Nat → Nat) (ath : Nat → Nat) (ah : Nat → Nat) (sz : Nat) (m_am : Pic) (t_an : Pic) (p_an : Pic) (x1 x2 : Int32) (out : Int32 × Pic) (hf : f_X8_read m_am t_an p_an x1 x2 = some out) : Met l yX8_read (.code yX8_read cX8_read 3 (some .int) :: BT) ({ frames := 1, cells := 0, slots := 0, locals := 21 }) (va_Pc [.ref (am 99), .int x1, .int x2] (PreW G sz (mO G am as_ ar ac an ath ah m_am ++ (tO G an t_an ++ (pO G an p_an ++ []))))) (Ans G out.1 (va_A (mO G am as_ ar ac an ath ah m_am ++ (tO G an t_an ++ (pO G an p_an ++ []))) sz) (mO G am as_ ar ac an ath ah out.2 ++ (tO G an t_an ++ (pO G an p_an ++ [])))) 0 0 (va_A (mO G am as_ ar ac an ath ah m_am ++ (tO G an t_an ++ (pO G an p_an ++ []))) sz) := by
  refine Met.into (by decide) (Nat.le_of_ble_eq_true rfl) ?_
  intro p e s m below meth c C hsz ls hl hw
  have hl : lv_has ls 3 [(0, .ref (am 99)), (1, .int x1), (2, .int x2)] := hl
  clear hsz
  generalize va_A (mO G am as_ ar ac an ath ah m_am ++ (tO G an t_an ++ (pO G an p_an ++ []))) sz = A at hw ⊢
  have hB_15 : ∀ (m_am : Pic), b_X8_read_15 t_an p_an x1 x2  m_am = some out → ∀ (H : Heap) (locs : List Loc), Wd G A s H locs (mO G am as_ ar ac an ath ah m_am ++ (tO G an t_an ++ (pO G an p_an ++ []))) → ∀ ls : Array Slot, lv_has ls 3 [(0, .ref (am 99))] → W p l e ({ frames := 1, cells := 0, slots := 0, locals := 21 }) s m [.ref (am 99), .int x1, .int x2].toArray below meth c H locs 0 0 (MQ below (Ans G out.1 A (mO G am as_ ar ac an ath ah out.2 ++ (tO G an t_an ++ (pO G an p_an ++ [])))) [.ref (am 99), .int x1, .int x2].toArray s 0 0 A) (F0 m 15 ls []) := by
    intro m_am hf H locs hw ls hl
    unfold b_X8_read_15 at hf
    refine r_aload0 C hl 0 rfl dX8_read_15 ?_
    refine lv_iconst (v := 1) C.1 C.2.1 dX8_read_16 (by decide) ?_
    obtain ⟨u2, e2, hf⟩ := bx hf
    refine r_callVi (ws' := (mO G am as_ ar ac an ath ah u2.2 ++ (tO G an t_an ++ (pO G an p_an ++ [])))) (As := [.int 1]) (rest := []) C hw hl.1 kX8_refuse ml_X8_63 (c_X8_refuse l G am as_ ar ac an ath ah _ m_am 1 u2 e2) (CutX.take mO_f CutX.none) _ (gx_h mO_o) rfl ⟨rfl, rfl⟩ ⟨Nat.le_of_ble_eq_true rfl, Nat.le_of_ble_eq_true rfl⟩ rfl ⟨Nat.zero_le _, Nat.zero_le _⟩ rfl (Nat.le_of_ble_eq_true rfl) dX8_read_17 (fun H locs hw => ?_)
    exact fin_i C hw (Option.some.inj hf) (fun o => o.1) (fun o => (mO G am as_ ar ac an ath ah o.2 ++ (tO G an t_an ++ (pO G an p_an ++ [])))) rfl rfl dX8_read_20
  unfold f_X8_read at hf
  refine r_aload0 C hl 0 rfl dX8_read_0 ?_
  refine r_iload0 C hl 1 rfl dX8_read_1 ?_
  obtain ⟨u1, e1, hf⟩ := bx hf
  refine r_callVi (ws' := (mO G am as_ ar ac an ath ah m_am ++ (tO G an t_an ++ (pO G an p_an ++ [])))) (As := [.int x1]) (rest := []) C hw hl.1 kX8_noPage ml_X8_247 (c_X8_noPage l G am as_ ar ac an ath ah _ m_am x1 u1 e1) (CutX.take mO_f CutX.none) _ (gx_h mO_o) rfl ⟨rfl, rfl⟩ ⟨Nat.le_of_ble_eq_true rfl, Nat.le_of_ble_eq_true rfl⟩ rfl ⟨Nat.zero_le _, Nat.zero_le _⟩ rfl (Nat.le_of_ble_eq_true rfl) dX8_read_2 (fun H locs hw => ?_)
  refine lv_if_ne (tgt := 15) C.1 C.2.1 dX8_read_5 (by decide) (fun hc => ?_) (fun hc => ?_)
  · replace hf := ifn hf hc
    exact hB_15  m_am hf _ _ hw _ (lv_sub hl [0] rfl)
  · replace hf := ifp hf hc
    refine r_iload0 C hl 2 rfl dX8_read_8 ?_
    obtain ⟨u3, e3, hf⟩ := bx hf
    refine r_callSi (ws' := (mO G am as_ ar ac an ath ah m_am ++ (tO G an t_an ++ (pO G an p_an ++ [])))) (As := [.int x2]) (rest := []) C hw hl.1 kX8_noCell ml_X8_145 (c_X8_noCell l G _ x2 u3 e3) CutX.none ⟨rfl, rfl⟩ ⟨Nat.le_of_ble_eq_true rfl, Nat.le_of_ble_eq_true rfl⟩ rfl ⟨Nat.zero_le _, Nat.zero_le _⟩ rfl (Nat.le_of_ble_eq_true rfl) dX8_read_9 (fun H locs hw => ?_)
    refine lv_if_eq (tgt := 21) C.1 C.2.1 dX8_read_12 (by decide) (fun hc => ?_) (fun hc => ?_)
    · replace hf := ifp hf hc
      refine r_aload0 C hl 0 rfl dX8_read_21 ?_
      refine r_get C hw _ (gx_h mO_o) 9 fl_X8_37 rfl dX8_read_22 ?_
      refine r_get C hw _ (gx_t (gx_h tO_o)) 2 fl_X8_105 rfl dX8_read_25 ?_
      refine r_get C hw _ (gx_t (gx_t (gx_h pO_o))) 4 fl_X8_250 rfl dX8_read_28 ?_
      refine r_iload0 C hl 1 rfl dX8_read_31 ?_
      obtain ⟨v4_, e4, hf⟩ := bx hf
      refine r_iald C hw _ (gx_t (gx_t (gx_h pO_g4))) e4 dX8_read_32 ?_
      refine lv_if_ne (tgt := 42) C.1 C.2.1 dX8_read_33 (by decide) (fun hc => ?_) (fun hc => ?_)
      · replace hf := ifn hf hc
        refine r_aload0 C hl 0 rfl dX8_read_42 ?_
        refine r_aload0 C hl 0 rfl dX8_read_43 ?_
        refine r_get C hw _ (gx_h mO_o) 9 fl_X8_37 rfl dX8_read_44 ?_
        refine r_get C hw _ (gx_t (gx_h tO_o)) 2 fl_X8_105 rfl dX8_read_47 ?_
        refine r_get C hw _ (gx_t (gx_t (gx_h pO_o))) 9 fl_X8_266 rfl dX8_read_50 ?_
        refine r_iload0 C hl 1 rfl dX8_read_53 ?_
        refine lv_bipush (v := 16) C.1 C.2.1 dX8_read_54 (by decide) ?_
        refine lv_imul C.1 C.2.1 dX8_read_56 ?_
        refine r_iload0 C hl 2 rfl dX8_read_57 ?_
        refine lv_iadd C.1 C.2.1 dX8_read_58 ?_
        obtain ⟨v5_, e5, hf⟩ := bx hf
        refine r_iald C hw _ (gx_t (gx_t (gx_h pO_g9))) e5 dX8_read_59 ?_
        obtain ⟨u6, e6, hf⟩ := bx hf
        refine r_callVi (ws' := (mO G am as_ ar ac an ath ah u6.2 ++ (tO G an t_an ++ (pO G an p_an ++ [])))) (As := [.int v5_]) (rest := []) C hw hl.1 kX8_answer ml_X8_99 (c_X8_answer l G am as_ ar ac an ath ah _ m_am v5_ u6 e6) (CutX.take mO_f CutX.none) _ (gx_h mO_o) rfl ⟨rfl, rfl⟩ ⟨Nat.le_of_ble_eq_true rfl, Nat.le_of_ble_eq_true rfl⟩ rfl ⟨Nat.zero_le _, Nat.zero_le _⟩ rfl (Nat.le_of_ble_eq_true rfl) dX8_read_60 (fun H locs hw => ?_)
        exact fin_i C hw (Option.some.inj hf) (fun o => o.1) (fun o => (mO G am as_ ar ac an ath ah o.2 ++ (tO G an t_an ++ (pO G an p_an ++ [])))) rfl rfl dX8_read_63
      · replace hf := ifp hf hc
        refine r_aload0 C hl 0 rfl dX8_read_36 ?_
        refine lv_iconst (v := 5) C.1 C.2.1 dX8_read_37 (by decide) ?_
        obtain ⟨u7, e7, hf⟩ := bx hf
        refine r_callVi (ws' := (mO G am as_ ar ac an ath ah u7.2 ++ (tO G an t_an ++ (pO G an p_an ++ [])))) (As := [.int 5]) (rest := []) C hw hl.1 kX8_refuse ml_X8_63 (c_X8_refuse l G am as_ ar ac an ath ah _ m_am 5 u7 e7) (CutX.take mO_f CutX.none) _ (gx_h mO_o) rfl ⟨rfl, rfl⟩ ⟨Nat.le_of_ble_eq_true rfl, Nat.le_of_ble_eq_true rfl⟩ rfl ⟨Nat.zero_le _, Nat.zero_le _⟩ rfl (Nat.le_of_ble_eq_true rfl) dX8_read_38 (fun H locs hw => ?_)
        exact fin_i C hw (Option.some.inj hf) (fun o => o.1) (fun o => (mO G am as_ ar ac an ath ah o.2 ++ (tO G an t_an ++ (pO G an p_an ++ [])))) rfl rfl dX8_read_41
    · replace hf := ifn hf hc
      exact hB_15  m_am hf _ _ hw _ (lv_sub hl [0] rfl)
set_option maxHeartbeats 4000000 in
set_option maxRecDepth 100000 in
theorem c_X8_aged (l : Launch) (G : GG) (am : Nat → Nat) (as_ : Nat → Nat) (ar : Nat → Nat) (ac : Nat → Nat) (an : Nat → Nat) (ath : Nat → Nat) (ah : Nat → Nat) (sz : Nat) (m_am : Pic) (t_an : Pic) (p_an : Pic) (x1 : Int32) (out : Int32 × Pic) (hf : f_X8_aged m_am t_an p_an x1 = some out) : Met l yX8_aged (.code yX8_aged cX8_aged 2 (some .int) :: BT) ({ frames := 1, cells := 0, slots := 0, locals := 21 }) (va_Pc [.ref (am 99), .int x1] (PreW G sz (mO G am as_ ar ac an ath ah m_am ++ (tO G an t_an ++ (pO G an p_an ++ []))))) (Ans G out.1 (va_A (mO G am as_ ar ac an ath ah m_am ++ (tO G an t_an ++ (pO G an p_an ++ []))) sz) (mO G am as_ ar ac an ath ah out.2 ++ (tO G an t_an ++ (pO G an p_an ++ [])))) 0 0 (va_A (mO G am as_ ar ac an ath ah m_am ++ (tO G an t_an ++ (pO G an p_an ++ []))) sz) := by
  refine Met.into (by decide) (Nat.le_of_ble_eq_true rfl) ?_
  intro p e s m below meth c C hsz ls hl hw
  have hl : lv_has ls 2 [(0, .ref (am 99)), (1, .int x1)] := hl
  clear hsz
  generalize va_A (mO G am as_ ar ac an ath ah m_am ++ (tO G an t_an ++ (pO G an p_an ++ []))) sz = A at hw ⊢
  have hB_25 : ∀ (m_am : Pic), b_X8_aged_25 t_an p_an x1  m_am = some out → ∀ (H : Heap) (locs : List Loc), Wd G A s H locs (mO G am as_ ar ac an ath ah m_am ++ (tO G an t_an ++ (pO G an p_an ++ []))) → ∀ ls : Array Slot, lv_has ls 2 [(0, .ref (am 99))] → W p l e ({ frames := 1, cells := 0, slots := 0, locals := 21 }) s m [.ref (am 99), .int x1].toArray below meth c H locs 0 0 (MQ below (Ans G out.1 A (mO G am as_ ar ac an ath ah out.2 ++ (tO G an t_an ++ (pO G an p_an ++ [])))) [.ref (am 99), .int x1].toArray s 0 0 A) (F0 m 25 ls []) := by
    intro m_am hf H locs hw ls hl
    unfold b_X8_aged_25 at hf
    refine r_aload0 C hl 0 rfl dX8_aged_25 ?_
    refine lv_iconst (v := 1) C.1 C.2.1 dX8_aged_26 (by decide) ?_
    obtain ⟨u1, e1, hf⟩ := bx hf
    refine r_callVi (ws' := (mO G am as_ ar ac an ath ah u1.2 ++ (tO G an t_an ++ (pO G an p_an ++ [])))) (As := [.int 1]) (rest := []) C hw hl.1 kX8_refuse ml_X8_63 (c_X8_refuse l G am as_ ar ac an ath ah _ m_am 1 u1 e1) (CutX.take mO_f CutX.none) _ (gx_h mO_o) rfl ⟨rfl, rfl⟩ ⟨Nat.le_of_ble_eq_true rfl, Nat.le_of_ble_eq_true rfl⟩ rfl ⟨Nat.zero_le _, Nat.zero_le _⟩ rfl (Nat.le_of_ble_eq_true rfl) dX8_aged_27 (fun H locs hw => ?_)
    exact fin_i C hw (Option.some.inj hf) (fun o => o.1) (fun o => (mO G am as_ ar ac an ath ah o.2 ++ (tO G an t_an ++ (pO G an p_an ++ [])))) rfl rfl dX8_aged_30
  unfold f_X8_aged at hf
  refine r_aload0 C hl 0 rfl dX8_aged_0 ?_
  refine r_get C hw _ (gx_h mO_o) 2 fl_X8_85 rfl dX8_aged_1 ?_
  refine lv_if_eq (tgt := 25) C.1 C.2.1 dX8_aged_4 (by decide) (fun hc => ?_) (fun hc => ?_)
  · replace hf := ifp hf hc
    exact hB_25  m_am hf _ _ hw _ (lv_sub hl [0] rfl)
  · replace hf := ifn hf hc
    refine r_iload0 C hl 1 rfl dX8_aged_7 ?_
    refine lv_if_lt (tgt := 25) C.1 C.2.1 dX8_aged_8 (by decide) (fun hc => ?_) (fun hc => ?_)
    · replace hf := ifp hf hc
      exact hB_25  m_am hf _ _ hw _ (lv_sub hl [0] rfl)
    · replace hf := ifn hf hc
      refine r_iload0 C hl 1 rfl dX8_aged_11 ?_
      refine r_aload0 C hl 0 rfl dX8_aged_12 ?_
      refine r_get C hw _ (gx_h mO_o) 9 fl_X8_37 rfl dX8_aged_13 ?_
      refine r_get C hw _ (gx_t (gx_h tO_o)) 2 fl_X8_105 rfl dX8_aged_16 ?_
      refine r_get C hw _ (gx_t (gx_t (gx_h pO_o))) 11 fl_X8_132 rfl dX8_aged_19 ?_
      refine lv_icmp_lt (tgt := 31) C.1 C.2.1 dX8_aged_22 (by decide) (fun hc => ?_) (fun hc => ?_)
      · replace hf := ifp hf hc
        refine r_aload0 C hl 0 rfl dX8_aged_31 ?_
        refine r_aload0 C hl 0 rfl dX8_aged_32 ?_
        refine r_get C hw _ (gx_h mO_o) 9 fl_X8_37 rfl dX8_aged_33 ?_
        refine r_get C hw _ (gx_t (gx_h tO_o)) 2 fl_X8_105 rfl dX8_aged_36 ?_
        refine r_get C hw _ (gx_t (gx_t (gx_h pO_o))) 10 fl_X8_267 rfl dX8_aged_39 ?_
        refine r_iload0 C hl 1 rfl dX8_aged_42 ?_
        obtain ⟨v2_, e2, hf⟩ := bx hf
        refine r_iald C hw _ (gx_t (gx_t (gx_h pO_g10))) e2 dX8_aged_43 ?_
        obtain ⟨u3, e3, hf⟩ := bx hf
        refine r_callVi (ws' := (mO G am as_ ar ac an ath ah u3.2 ++ (tO G an t_an ++ (pO G an p_an ++ [])))) (As := [.int v2_]) (rest := []) C hw hl.1 kX8_answer ml_X8_99 (c_X8_answer l G am as_ ar ac an ath ah _ m_am v2_ u3 e3) (CutX.take mO_f CutX.none) _ (gx_h mO_o) rfl ⟨rfl, rfl⟩ ⟨Nat.le_of_ble_eq_true rfl, Nat.le_of_ble_eq_true rfl⟩ rfl ⟨Nat.zero_le _, Nat.zero_le _⟩ rfl (Nat.le_of_ble_eq_true rfl) dX8_aged_44 (fun H locs hw => ?_)
        exact fin_i C hw (Option.some.inj hf) (fun o => o.1) (fun o => (mO G am as_ ar ac an ath ah o.2 ++ (tO G an t_an ++ (pO G an p_an ++ [])))) rfl rfl dX8_aged_47
      · replace hf := ifn hf hc
        exact hB_25  m_am hf _ _ hw _ (lv_sub hl [0] rfl)
set_option maxHeartbeats 4000000 in
set_option maxRecDepth 100000 in
theorem c_X8_total (l : Launch) (G : GG) (am : Nat → Nat) (as_ : Nat → Nat) (ar : Nat → Nat) (ac : Nat → Nat) (an : Nat → Nat) (ath : Nat → Nat) (ah : Nat → Nat) (sz : Nat) (m_am : Pic) (t_an : Pic) (p_an : Pic) (x1 : Int32) (out : Int32 × Pic) (hf : f_X8_total m_am t_an p_an x1 = some out) : Met l yX8_total (.code yX8_total cX8_total 2 (some .int) :: BT) ({ frames := 1, cells := 0, slots := 0, locals := 21 }) (va_Pc [.ref (am 99), .int x1] (PreW G sz (mO G am as_ ar ac an ath ah m_am ++ (tO G an t_an ++ (pO G an p_an ++ []))))) (Ans G out.1 (va_A (mO G am as_ ar ac an ath ah m_am ++ (tO G an t_an ++ (pO G an p_an ++ []))) sz) (mO G am as_ ar ac an ath ah out.2 ++ (tO G an t_an ++ (pO G an p_an ++ [])))) 0 0 (va_A (mO G am as_ ar ac an ath ah m_am ++ (tO G an t_an ++ (pO G an p_an ++ []))) sz) := by
  refine Met.into (by decide) (Nat.le_of_ble_eq_true rfl) ?_
  intro p e s m below meth c C hsz ls hl hw
  have hl : lv_has ls 2 [(0, .ref (am 99)), (1, .int x1)] := hl
  clear hsz
  generalize va_A (mO G am as_ ar ac an ath ah m_am ++ (tO G an t_an ++ (pO G an p_an ++ []))) sz = A at hw ⊢
  have hB_16 : ∀ (m_am : Pic), b_X8_total_16 t_an p_an x1  m_am = some out → ∀ (H : Heap) (locs : List Loc), Wd G A s H locs (mO G am as_ ar ac an ath ah m_am ++ (tO G an t_an ++ (pO G an p_an ++ []))) → ∀ ls : Array Slot, lv_has ls 2 [(0, .ref (am 99))] → W p l e ({ frames := 1, cells := 0, slots := 0, locals := 21 }) s m [.ref (am 99), .int x1].toArray below meth c H locs 0 0 (MQ below (Ans G out.1 A (mO G am as_ ar ac an ath ah out.2 ++ (tO G an t_an ++ (pO G an p_an ++ [])))) [.ref (am 99), .int x1].toArray s 0 0 A) (F0 m 16 ls []) := by
    intro m_am hf H locs hw ls hl
    unfold b_X8_total_16 at hf
    refine r_aload0 C hl 0 rfl dX8_total_16 ?_
    refine lv_iconst (v := 1) C.1 C.2.1 dX8_total_17 (by decide) ?_
    obtain ⟨u1, e1, hf⟩ := bx hf
    refine r_callVi (ws' := (mO G am as_ ar ac an ath ah u1.2 ++ (tO G an t_an ++ (pO G an p_an ++ [])))) (As := [.int 1]) (rest := []) C hw hl.1 kX8_refuse ml_X8_63 (c_X8_refuse l G am as_ ar ac an ath ah _ m_am 1 u1 e1) (CutX.take mO_f CutX.none) _ (gx_h mO_o) rfl ⟨rfl, rfl⟩ ⟨Nat.le_of_ble_eq_true rfl, Nat.le_of_ble_eq_true rfl⟩ rfl ⟨Nat.zero_le _, Nat.zero_le _⟩ rfl (Nat.le_of_ble_eq_true rfl) dX8_total_18 (fun H locs hw => ?_)
    exact fin_i C hw (Option.some.inj hf) (fun o => o.1) (fun o => (mO G am as_ ar ac an ath ah o.2 ++ (tO G an t_an ++ (pO G an p_an ++ [])))) rfl rfl dX8_total_21
  unfold f_X8_total at hf
  refine r_aload0 C hl 0 rfl dX8_total_0 ?_
  refine r_get C hw _ (gx_h mO_o) 2 fl_X8_85 rfl dX8_total_1 ?_
  refine lv_if_eq (tgt := 16) C.1 C.2.1 dX8_total_4 (by decide) (fun hc => ?_) (fun hc => ?_)
  · replace hf := ifp hf hc
    exact hB_16  m_am hf _ _ hw _ (lv_sub hl [0] rfl)
  · replace hf := ifn hf hc
    refine r_iload0 C hl 1 rfl dX8_total_7 ?_
    refine lv_if_lt (tgt := 16) C.1 C.2.1 dX8_total_8 (by decide) (fun hc => ?_) (fun hc => ?_)
    · replace hf := ifp hf hc
      exact hB_16  m_am hf _ _ hw _ (lv_sub hl [0] rfl)
    · replace hf := ifn hf hc
      refine r_iload0 C hl 1 rfl dX8_total_11 ?_
      refine lv_iconst (v := 4) C.1 C.2.1 dX8_total_12 (by decide) ?_
      refine lv_icmp_lt (tgt := 22) C.1 C.2.1 dX8_total_13 (by decide) (fun hc => ?_) (fun hc => ?_)
      · replace hf := ifp hf hc
        refine r_aload0 C hl 0 rfl dX8_total_22 ?_
        refine r_aload0 C hl 0 rfl dX8_total_23 ?_
        refine r_get C hw _ (gx_h mO_o) 9 fl_X8_37 rfl dX8_total_24 ?_
        refine r_get C hw _ (gx_t (gx_h tO_o)) 2 fl_X8_105 rfl dX8_total_27 ?_
        refine r_get C hw _ (gx_t (gx_t (gx_h pO_o))) 12 fl_X8_270 rfl dX8_total_30 ?_
        refine r_iload0 C hl 1 rfl dX8_total_33 ?_
        obtain ⟨v2_, e2, hf⟩ := bx hf
        refine r_iald C hw _ (gx_t (gx_t (gx_h pO_g12))) e2 dX8_total_34 ?_
        obtain ⟨u3, e3, hf⟩ := bx hf
        refine r_callVi (ws' := (mO G am as_ ar ac an ath ah u3.2 ++ (tO G an t_an ++ (pO G an p_an ++ [])))) (As := [.int v2_]) (rest := []) C hw hl.1 kX8_answer ml_X8_99 (c_X8_answer l G am as_ ar ac an ath ah _ m_am v2_ u3 e3) (CutX.take mO_f CutX.none) _ (gx_h mO_o) rfl ⟨rfl, rfl⟩ ⟨Nat.le_of_ble_eq_true rfl, Nat.le_of_ble_eq_true rfl⟩ rfl ⟨Nat.zero_le _, Nat.zero_le _⟩ rfl (Nat.le_of_ble_eq_true rfl) dX8_total_35 (fun H locs hw => ?_)
        exact fin_i C hw (Option.some.inj hf) (fun o => o.1) (fun o => (mO G am as_ ar ac an ath ah o.2 ++ (tO G an t_an ++ (pO G an p_an ++ [])))) rfl rfl dX8_total_38
      · replace hf := ifn hf hc
        exact hB_16  m_am hf _ _ hw _ (lv_sub hl [0] rfl)
set_option maxHeartbeats 4000000 in
set_option maxRecDepth 100000 in
theorem c_X8_same (l : Launch) (G : GG) (am : Nat → Nat) (as_ : Nat → Nat) (ar : Nat → Nat) (ac : Nat → Nat) (an : Nat → Nat) (ath : Nat → Nat) (ah : Nat → Nat) (sz : Nat) (m_am : Pic) (t_an : Pic) (p_an : Pic) (x1 x2 : Int32) (out : Int32 × Pic) (hf : f_X8_same m_am t_an p_an x1 x2 = some out) : Met l yX8_same (.code yX8_same cX8_same 3 (some .int) :: BT) ({ frames := 2, cells := 0, slots := 0, locals := 43 }) (va_Pc [.ref (am 99), .int x1, .int x2] (PreW G sz (mO G am as_ ar ac an ath ah m_am ++ (tO G an t_an ++ (pO G an p_an ++ []))))) (Ans G out.1 (va_A (mO G am as_ ar ac an ath ah m_am ++ (tO G an t_an ++ (pO G an p_an ++ []))) sz) (mO G am as_ ar ac an ath ah out.2 ++ (tO G an t_an ++ (pO G an p_an ++ [])))) 0 0 (va_A (mO G am as_ ar ac an ath ah m_am ++ (tO G an t_an ++ (pO G an p_an ++ []))) sz) := by
  refine Met.into (by decide) (Nat.le_of_ble_eq_true rfl) ?_
  intro p e s m below meth c C hsz ls hl hw
  have hl : lv_has ls 3 [(0, .ref (am 99)), (1, .int x1), (2, .int x2)] := hl
  clear hsz
  generalize va_A (mO G am as_ ar ac an ath ah m_am ++ (tO G an t_an ++ (pO G an p_an ++ []))) sz = A at hw ⊢
  have hB_16 : ∀ (m_am : Pic), b_X8_same_16 t_an p_an x1 x2  m_am = some out → ∀ (H : Heap) (locs : List Loc), Wd G A s H locs (mO G am as_ ar ac an ath ah m_am ++ (tO G an t_an ++ (pO G an p_an ++ []))) → ∀ ls : Array Slot, lv_has ls 3 [(0, .ref (am 99))] → W p l e ({ frames := 2, cells := 0, slots := 0, locals := 43 }) s m [.ref (am 99), .int x1, .int x2].toArray below meth c H locs 0 0 (MQ below (Ans G out.1 A (mO G am as_ ar ac an ath ah out.2 ++ (tO G an t_an ++ (pO G an p_an ++ [])))) [.ref (am 99), .int x1, .int x2].toArray s 0 0 A) (F0 m 16 ls []) := by
    intro m_am hf H locs hw ls hl
    unfold b_X8_same_16 at hf
    refine r_aload0 C hl 0 rfl dX8_same_16 ?_
    refine lv_iconst (v := 1) C.1 C.2.1 dX8_same_17 (by decide) ?_
    obtain ⟨u2, e2, hf⟩ := bx hf
    refine r_callVi (ws' := (mO G am as_ ar ac an ath ah u2.2 ++ (tO G an t_an ++ (pO G an p_an ++ [])))) (As := [.int 1]) (rest := []) C hw hl.1 kX8_refuse ml_X8_63 (c_X8_refuse l G am as_ ar ac an ath ah _ m_am 1 u2 e2) (CutX.take mO_f CutX.none) _ (gx_h mO_o) rfl ⟨rfl, rfl⟩ ⟨Nat.le_of_ble_eq_true rfl, Nat.le_of_ble_eq_true rfl⟩ rfl ⟨Nat.zero_le _, Nat.zero_le _⟩ rfl (Nat.le_of_ble_eq_true rfl) dX8_same_18 (fun H locs hw => ?_)
    exact fin_i C hw (Option.some.inj hf) (fun o => o.1) (fun o => (mO G am as_ ar ac an ath ah o.2 ++ (tO G an t_an ++ (pO G an p_an ++ [])))) rfl rfl dX8_same_21
  have hB_52 : ∀ (m_am : Pic), b_X8_same_52 t_an p_an x1 x2  m_am = some out → ∀ (H : Heap) (locs : List Loc), Wd G A s H locs (mO G am as_ ar ac an ath ah m_am ++ (tO G an t_an ++ (pO G an p_an ++ []))) → ∀ ls : Array Slot, lv_has ls 3 [(0, .ref (am 99))] → W p l e ({ frames := 2, cells := 0, slots := 0, locals := 43 }) s m [.ref (am 99), .int x1, .int x2].toArray below meth c H locs 0 0 (MQ below (Ans G out.1 A (mO G am as_ ar ac an ath ah out.2 ++ (tO G an t_an ++ (pO G an p_an ++ [])))) [.ref (am 99), .int x1, .int x2].toArray s 0 0 A) (F0 m 52 ls []) := by
    intro m_am hf H locs hw ls hl
    unfold b_X8_same_52 at hf
    refine r_aload0 C hl 0 rfl dX8_same_52 ?_
    refine lv_iconst (v := 5) C.1 C.2.1 dX8_same_53 (by decide) ?_
    obtain ⟨u5, e5, hf⟩ := bx hf
    refine r_callVi (ws' := (mO G am as_ ar ac an ath ah u5.2 ++ (tO G an t_an ++ (pO G an p_an ++ [])))) (As := [.int 5]) (rest := []) C hw hl.1 kX8_refuse ml_X8_63 (c_X8_refuse l G am as_ ar ac an ath ah _ m_am 5 u5 e5) (CutX.take mO_f CutX.none) _ (gx_h mO_o) rfl ⟨rfl, rfl⟩ ⟨Nat.le_of_ble_eq_true rfl, Nat.le_of_ble_eq_true rfl⟩ rfl ⟨Nat.zero_le _, Nat.zero_le _⟩ rfl (Nat.le_of_ble_eq_true rfl) dX8_same_54 (fun H locs hw => ?_)
    exact fin_i C hw (Option.some.inj hf) (fun o => o.1) (fun o => (mO G am as_ ar ac an ath ah o.2 ++ (tO G an t_an ++ (pO G an p_an ++ [])))) rfl rfl dX8_same_57
  have hB_79 : ∀ (m_am : Pic) (t0 : Int32), b_X8_same_79 t_an p_an x1 x2  m_am t0 = some out → ∀ (H : Heap) (locs : List Loc), Wd G A s H locs (mO G am as_ ar ac an ath ah m_am ++ (tO G an t_an ++ (pO G an p_an ++ []))) → ∀ ls : Array Slot, lv_has ls 3 [] → W p l e ({ frames := 2, cells := 0, slots := 0, locals := 43 }) s m [.ref (am 99), .int x1, .int x2].toArray below meth c H locs 0 0 (MQ below (Ans G out.1 A (mO G am as_ ar ac an ath ah out.2 ++ (tO G an t_an ++ (pO G an p_an ++ [])))) [.ref (am 99), .int x1, .int x2].toArray s 0 0 A) (F0 m 79 ls [.int t0, .ref (am 99)]) := by
    intro m_am t0 hf H locs hw ls hl
    unfold b_X8_same_79 at hf
    obtain ⟨u8, e8, hf⟩ := bx hf
    refine r_callVi (ws' := (mO G am as_ ar ac an ath ah u8.2 ++ (tO G an t_an ++ (pO G an p_an ++ [])))) (As := [.int t0]) (rest := []) C hw hl.1 kX8_answer ml_X8_99 (c_X8_answer l G am as_ ar ac an ath ah _ m_am t0 u8 e8) (CutX.take mO_f CutX.none) _ (gx_h mO_o) rfl ⟨rfl, rfl⟩ ⟨Nat.le_of_ble_eq_true rfl, Nat.le_of_ble_eq_true rfl⟩ rfl ⟨Nat.zero_le _, Nat.zero_le _⟩ rfl (Nat.le_of_ble_eq_true rfl) dX8_same_79 (fun H locs hw => ?_)
    exact fin_i C hw (Option.some.inj hf) (fun o => o.1) (fun o => (mO G am as_ ar ac an ath ah o.2 ++ (tO G an t_an ++ (pO G an p_an ++ [])))) rfl rfl dX8_same_82
  unfold f_X8_same at hf
  refine r_aload0 C hl 0 rfl dX8_same_0 ?_
  refine r_iload0 C hl 1 rfl dX8_same_1 ?_
  obtain ⟨u1, e1, hf⟩ := bx hf
  refine r_callVi (ws' := (mO G am as_ ar ac an ath ah m_am ++ (tO G an t_an ++ (pO G an p_an ++ [])))) (As := [.int x1]) (rest := []) C hw hl.1 kX8_noPage ml_X8_247 (c_X8_noPage l G am as_ ar ac an ath ah _ m_am x1 u1 e1) (CutX.take mO_f CutX.none) _ (gx_h mO_o) rfl ⟨rfl, rfl⟩ ⟨Nat.le_of_ble_eq_true rfl, Nat.le_of_ble_eq_true rfl⟩ rfl ⟨Nat.zero_le _, Nat.zero_le _⟩ rfl (Nat.le_of_ble_eq_true rfl) dX8_same_2 (fun H locs hw => ?_)
  refine lv_if_ne (tgt := 16) C.1 C.2.1 dX8_same_5 (by decide) (fun hc => ?_) (fun hc => ?_)
  · replace hf := ifn hf hc
    exact hB_16  m_am hf _ _ hw _ (lv_sub hl [0] rfl)
  · replace hf := ifp hf hc
    refine r_aload0 C hl 0 rfl dX8_same_8 ?_
    refine r_iload0 C hl 2 rfl dX8_same_9 ?_
    obtain ⟨u3, e3, hf⟩ := bx hf
    refine r_callVi (ws' := (mO G am as_ ar ac an ath ah m_am ++ (tO G an t_an ++ (pO G an p_an ++ [])))) (As := [.int x2]) (rest := []) C hw hl.1 kX8_noPage ml_X8_247 (c_X8_noPage l G am as_ ar ac an ath ah _ m_am x2 u3 e3) (CutX.take mO_f CutX.none) _ (gx_h mO_o) rfl ⟨rfl, rfl⟩ ⟨Nat.le_of_ble_eq_true rfl, Nat.le_of_ble_eq_true rfl⟩ rfl ⟨Nat.zero_le _, Nat.zero_le _⟩ rfl (Nat.le_of_ble_eq_true rfl) dX8_same_10 (fun H locs hw => ?_)
    refine lv_if_eq (tgt := 22) C.1 C.2.1 dX8_same_13 (by decide) (fun hc => ?_) (fun hc => ?_)
    · replace hf := ifp hf hc
      refine r_aload0 C hl 0 rfl dX8_same_22 ?_
      refine r_get C hw _ (gx_h mO_o) 9 fl_X8_37 rfl dX8_same_23 ?_
      refine r_get C hw _ (gx_t (gx_h tO_o)) 2 fl_X8_105 rfl dX8_same_26 ?_
      refine r_get C hw _ (gx_t (gx_t (gx_h pO_o))) 4 fl_X8_250 rfl dX8_same_29 ?_
      refine r_iload0 C hl 1 rfl dX8_same_32 ?_
      obtain ⟨v4_, e4, hf⟩ := bx hf
      refine r_iald C hw _ (gx_t (gx_t (gx_h pO_g4))) e4 dX8_same_33 ?_
      refine lv_if_eq (tgt := 52) C.1 C.2.1 dX8_same_34 (by decide) (fun hc => ?_) (fun hc => ?_)
      · replace hf := ifp hf hc
        exact hB_52  m_am hf _ _ hw _ (lv_sub hl [0] rfl)
      · replace hf := ifn hf hc
        refine r_aload0 C hl 0 rfl dX8_same_37 ?_
        refine r_get C hw _ (gx_h mO_o) 9 fl_X8_37 rfl dX8_same_38 ?_
        refine r_get C hw _ (gx_t (gx_h tO_o)) 2 fl_X8_105 rfl dX8_same_41 ?_
        refine r_get C hw _ (gx_t (gx_t (gx_h pO_o))) 4 fl_X8_250 rfl dX8_same_44 ?_
        refine r_iload0 C hl 2 rfl dX8_same_47 ?_
        obtain ⟨v6_, e6, hf⟩ := bx hf
        refine r_iald C hw _ (gx_t (gx_t (gx_h pO_g4))) e6 dX8_same_48 ?_
        refine lv_if_ne (tgt := 58) C.1 C.2.1 dX8_same_49 (by decide) (fun hc => ?_) (fun hc => ?_)
        · replace hf := ifn hf hc
          refine r_aload0 C hl 0 rfl dX8_same_58 ?_
          refine r_aload0 C hl 0 rfl dX8_same_59 ?_
          refine r_get C hw _ (gx_h mO_o) 9 fl_X8_37 rfl dX8_same_60 ?_
          refine r_get C hw _ (gx_t (gx_h tO_o)) 2 fl_X8_105 rfl dX8_same_63 ?_
          refine r_iload0 C hl 1 rfl dX8_same_66 ?_
          refine r_iload0 C hl 2 rfl dX8_same_67 ?_
          obtain ⟨u7, e7, hf⟩ := bx hf
          refine r_callVi (ws' := (mO G am as_ ar ac an ath ah m_am ++ (tO G an t_an ++ (pO G an p_an ++ [])))) (As := [.int x1, .int x2]) (rest := [.ref (am 99)]) C hw hl.1 kX3_likeCells ml_X8_273 (c_X3_likeCells l G an _ p_an x1 x2 u7 e7) (CutX.skip (CutX.skip (CutX.take pO_f CutX.none))) _ (gx_t (gx_t (gx_h pO_o))) rfl ⟨rfl, rfl⟩ ⟨Nat.le_of_ble_eq_true rfl, Nat.le_of_ble_eq_true rfl⟩ rfl ⟨Nat.zero_le _, Nat.zero_le _⟩ rfl (Nat.le_of_ble_eq_true rfl) dX8_same_68 (fun H locs hw => ?_)
          refine lv_if_eq (tgt := 78) C.1 C.2.1 dX8_same_71 (by decide) (fun hc => ?_) (fun hc => ?_)
          · replace hf := ifp hf hc
            refine lv_iconst (v := 0) C.1 C.2.1 dX8_same_78 (by decide) ?_
            exact hB_79  m_am 0 hf _ _ hw _ (lv_sub hl [] rfl)
          · replace hf := ifn hf hc
            refine lv_iconst (v := 1) C.1 C.2.1 dX8_same_74 (by decide) ?_
            refine lv_goto (tgt := 79) C.1 C.2.1 dX8_same_75 (by decide) ?_
            exact hB_79  m_am 1 hf _ _ hw _ (lv_sub hl [] rfl)
        · replace hf := ifp hf hc
          exact hB_52  m_am hf _ _ hw _ (lv_sub hl [0] rfl)
    · replace hf := ifn hf hc
      exact hB_16  m_am hf _ _ hw _ (lv_sub hl [0] rfl)
set_option maxHeartbeats 4000000 in
set_option maxRecDepth 100000 in
theorem c_X8_waste (l : Launch) (G : GG) (am : Nat → Nat) (as_ : Nat → Nat) (ar : Nat → Nat) (ac : Nat → Nat) (an : Nat → Nat) (ath : Nat → Nat) (ah : Nat → Nat) (sz : Nat) (m_am : Pic) (t_an : Pic) (p_an : Pic) (z_an : Pic)  (out : Int32 × Pic) (hf : f_X8_waste m_am t_an p_an z_an = some out) : Met l yX8_waste (.code yX8_waste cX8_waste 1 (some .int) :: BT) ({ frames := 1, cells := 0, slots := 0, locals := 22 }) (va_Pc [.ref (am 99)] (PreW G sz (mO G am as_ ar ac an ath ah m_am ++ (tO G an t_an ++ (pO G an p_an ++ (zO G an z_an ++ [])))))) (Ans G out.1 (va_A (mO G am as_ ar ac an ath ah m_am ++ (tO G an t_an ++ (pO G an p_an ++ (zO G an z_an ++ [])))) sz) (mO G am as_ ar ac an ath ah out.2 ++ (tO G an t_an ++ (pO G an p_an ++ (zO G an z_an ++ []))))) 0 0 (va_A (mO G am as_ ar ac an ath ah m_am ++ (tO G an t_an ++ (pO G an p_an ++ (zO G an z_an ++ [])))) sz) := by
  refine Met.into (by decide) (Nat.le_of_ble_eq_true rfl) ?_
  intro p e s m below meth c C hsz ls hl hw
  have hl : lv_has ls 1 [(0, .ref (am 99))] := hl
  clear hsz
  generalize va_A (mO G am as_ ar ac an ath ah m_am ++ (tO G an t_an ++ (pO G an p_an ++ (zO G an z_an ++ [])))) sz = A at hw ⊢
  unfold f_X8_waste at hf
  refine r_aload0 C hl 0 rfl dX8_waste_0 ?_
  refine r_get C hw _ (gx_h mO_o) 2 fl_X8_85 rfl dX8_waste_1 ?_
  refine lv_if_ne (tgt := 13) C.1 C.2.1 dX8_waste_4 (by decide) (fun hc => ?_) (fun hc => ?_)
  · replace hf := ifn hf hc
    refine r_aload0 C hl 0 rfl dX8_waste_13 ?_
    refine r_aload0 C hl 0 rfl dX8_waste_14 ?_
    refine r_get C hw _ (gx_h mO_o) 9 fl_X8_37 rfl dX8_waste_15 ?_
    refine r_get C hw _ (gx_t (gx_h tO_o)) 2 fl_X8_105 rfl dX8_waste_18 ?_
    refine r_get C hw _ (gx_t (gx_t (gx_h pO_o))) 3 fl_X8_120 rfl dX8_waste_21 ?_
    refine r_get C hw _ (gx_t (gx_t (gx_t (gx_h zO_o)))) 0 fl_X8_124 rfl dX8_waste_24 ?_
    refine lv_bipush (v := 16) C.1 C.2.1 dX8_waste_27 (by decide) ?_
    refine lv_imul C.1 C.2.1 dX8_waste_29 ?_
    refine r_aload0 C hl 0 rfl dX8_waste_30 ?_
    refine r_get C hw _ (gx_h mO_o) 9 fl_X8_37 rfl dX8_waste_31 ?_
    refine r_get C hw _ (gx_t (gx_h tO_o)) 2 fl_X8_105 rfl dX8_waste_34 ?_
    obtain ⟨u1, e1, hf⟩ := bx hf
    refine r_callVi (ws' := (mO G am as_ ar ac an ath ah m_am ++ (tO G an t_an ++ (pO G an p_an ++ (zO G an z_an ++ []))))) (As := []) (rest := [.int ((gS z_an 0) * 16), .ref (am 99)]) C hw hl.1 kX3_unitsTaken ml_X8_138 (c_X3_unitsTaken l G an _ p_an u1 e1) (CutX.skip (CutX.skip (CutX.take pO_f CutX.none))) _ (gx_t (gx_t (gx_h pO_o))) rfl ⟨rfl, rfl⟩ ⟨Nat.le_of_ble_eq_true rfl, Nat.le_of_ble_eq_true rfl⟩ rfl ⟨Nat.zero_le _, Nat.zero_le _⟩ rfl (Nat.le_of_ble_eq_true rfl) dX8_waste_37 (fun H locs hw => ?_)
    refine lv_isub C.1 C.2.1 dX8_waste_40 ?_
    obtain ⟨u2, e2, hf⟩ := bx hf
    refine r_callVi (ws' := (mO G am as_ ar ac an ath ah u2.2 ++ (tO G an t_an ++ (pO G an p_an ++ (zO G an z_an ++ []))))) (As := [.int (((gS z_an 0) * 16) - u1)]) (rest := []) C hw hl.1 kX8_answer ml_X8_99 (c_X8_answer l G am as_ ar ac an ath ah _ m_am (((gS z_an 0) * 16) - u1) u2 e2) (CutX.take mO_f CutX.none) _ (gx_h mO_o) rfl ⟨rfl, rfl⟩ ⟨Nat.le_of_ble_eq_true rfl, Nat.le_of_ble_eq_true rfl⟩ rfl ⟨Nat.zero_le _, Nat.zero_le _⟩ rfl (Nat.le_of_ble_eq_true rfl) dX8_waste_41 (fun H locs hw => ?_)
    exact fin_i C hw (Option.some.inj hf) (fun o => o.1) (fun o => (mO G am as_ ar ac an ath ah o.2 ++ (tO G an t_an ++ (pO G an p_an ++ (zO G an z_an ++ []))))) rfl rfl dX8_waste_44
  · replace hf := ifp hf hc
    refine r_aload0 C hl 0 rfl dX8_waste_7 ?_
    refine lv_iconst (v := 1) C.1 C.2.1 dX8_waste_8 (by decide) ?_
    obtain ⟨u3, e3, hf⟩ := bx hf
    refine r_callVi (ws' := (mO G am as_ ar ac an ath ah u3.2 ++ (tO G an t_an ++ (pO G an p_an ++ (zO G an z_an ++ []))))) (As := [.int 1]) (rest := []) C hw hl.1 kX8_refuse ml_X8_63 (c_X8_refuse l G am as_ ar ac an ath ah _ m_am 1 u3 e3) (CutX.take mO_f CutX.none) _ (gx_h mO_o) rfl ⟨rfl, rfl⟩ ⟨Nat.le_of_ble_eq_true rfl, Nat.le_of_ble_eq_true rfl⟩ rfl ⟨Nat.zero_le _, Nat.zero_le _⟩ rfl (Nat.le_of_ble_eq_true rfl) dX8_waste_9 (fun H locs hw => ?_)
    exact fin_i C hw (Option.some.inj hf) (fun o => o.1) (fun o => (mO G am as_ ar ac an ath ah o.2 ++ (tO G an t_an ++ (pO G an p_an ++ (zO G an z_an ++ []))))) rfl rfl dX8_waste_12
set_option maxHeartbeats 4000000 in
set_option maxRecDepth 100000 in
theorem c_X8_would (l : Launch) (G : GG) (am : Nat → Nat) (as_ : Nat → Nat) (ar : Nat → Nat) (ac : Nat → Nat) (an : Nat → Nat) (ath : Nat → Nat) (ah : Nat → Nat) (sz : Nat) (m_am : Pic) (t_an : Pic) (p_an : Pic) (p_ath : Pic) (z_an : Pic) (z_ath : Pic) (x1 x2 : Int32) (out : Int32 × Pic × Pic × Pic) (hf : f_X8_would m_am t_an p_an p_ath z_an z_ath x1 x2 = some out) : Met l yX8_would (.code yX8_would cX8_would 3 (some .int) :: BT) ({ frames := 6, cells := 0, slots := 0, locals := 134 }) (va_Pc [.ref (am 99), .int x1, .int x2] (PreW G sz (mO G am as_ ar ac an ath ah m_am ++ (tO G an t_an ++ (pO G an p_an ++ (pO G ath p_ath ++ (zO G an z_an ++ (zO G ath z_ath ++ [])))))))) (Ans G out.1 (va_A (mO G am as_ ar ac an ath ah m_am ++ (tO G an t_an ++ (pO G an p_an ++ (pO G ath p_ath ++ (zO G an z_an ++ (zO G ath z_ath ++ [])))))) sz) (mO G am as_ ar ac an ath ah out.2.1 ++ (tO G an t_an ++ (pO G an p_an ++ (pO G ath out.2.2.1 ++ (zO G an z_an ++ (zO G ath out.2.2.2 ++ []))))))) 0 0 (va_A (mO G am as_ ar ac an ath ah m_am ++ (tO G an t_an ++ (pO G an p_an ++ (pO G ath p_ath ++ (zO G an z_an ++ (zO G ath z_ath ++ [])))))) sz) := by
  refine Met.into (by decide) (Nat.le_of_ble_eq_true rfl) ?_
  intro p e s m below meth c C hsz ls hl hw
  have hl : lv_has ls 3 [(0, .ref (am 99)), (1, .int x1), (2, .int x2)] := hl
  clear hsz
  generalize va_A (mO G am as_ ar ac an ath ah m_am ++ (tO G an t_an ++ (pO G an p_an ++ (pO G ath p_ath ++ (zO G an z_an ++ (zO G ath z_ath ++ [])))))) sz = A at hw ⊢
  unfold f_X8_would at hf
  refine r_aload0 C hl 0 rfl dX8_would_0 ?_
  refine r_get C hw _ (gx_h mO_o) 2 fl_X8_85 rfl dX8_would_1 ?_
  refine lv_if_ne (tgt := 13) C.1 C.2.1 dX8_would_4 (by decide) (fun hc => ?_) (fun hc => ?_)
  · replace hf := ifn hf hc
    refine r_iload0 C hl 1 rfl dX8_would_13 ?_
    obtain ⟨u1, e1, hf⟩ := bx hf
    refine r_callSi (ws' := (mO G am as_ ar ac an ath ah m_am ++ (tO G an t_an ++ (pO G an p_an ++ (pO G ath p_ath ++ (zO G an z_an ++ (zO G ath z_ath ++ []))))))) (As := [.int x1]) (rest := []) C hw hl.1 kX8_noLimit ml_X8_277 (c_X8_noLimit l G _ x1 u1 e1) CutX.none ⟨rfl, rfl⟩ ⟨Nat.le_of_ble_eq_true rfl, Nat.le_of_ble_eq_true rfl⟩ rfl ⟨Nat.zero_le _, Nat.zero_le _⟩ rfl (Nat.le_of_ble_eq_true rfl) dX8_would_14 (fun H locs hw => ?_)
    refine lv_if_eq (tgt := 26) C.1 C.2.1 dX8_would_17 (by decide) (fun hc => ?_) (fun hc => ?_)
    · replace hf := ifp hf hc
      refine r_aload0 C hl 0 rfl dX8_would_26 ?_
      refine r_iload0 C hl 2 rfl dX8_would_27 ?_
      obtain ⟨u2, e2, hf⟩ := bx hf
      refine r_callVv (ws' := (mO G am as_ ar ac an ath ah m_am ++ (tO G an t_an ++ (pO G an p_an ++ (pO G ath u2.1 ++ (zO G an z_an ++ (zO G ath u2.2 ++ []))))))) (As := [.int x2]) (rest := []) C hw hl.1 kX8_thinkOfPool ml_X8_280 (c_X8_thinkOfPool l G am as_ ar ac an ath ah _ m_am t_an p_an p_ath z_an z_ath x2 u2 e2) (CutX.take mO_f (CutX.take tO_f (CutX.take pO_f (CutX.take pO_f (CutX.take zO_f (CutX.take zO_f CutX.none)))))) _ (gx_h mO_o) rfl ⟨rfl, rfl⟩ ⟨Nat.le_of_ble_eq_true rfl, Nat.le_of_ble_eq_true rfl⟩ rfl ⟨Nat.zero_le _, Nat.zero_le _⟩ rfl (Nat.le_of_ble_eq_true rfl) dX8_would_28 (fun H locs hw => ?_)
      refine r_aload0 C hl 0 rfl dX8_would_31 ?_
      refine r_aload0 C hl 0 rfl dX8_would_32 ?_
      refine r_get C hw _ (gx_h mO_o) 10 fl_X8_44 rfl dX8_would_33 ?_
      refine r_iload0 C hl 1 rfl dX8_would_36 ?_
      obtain ⟨u3, e3, hf⟩ := bx hf
      refine r_callVi (ws' := (mO G am as_ ar ac an ath ah m_am ++ (tO G an t_an ++ (pO G an p_an ++ (pO G ath u3.2.1 ++ (zO G an z_an ++ (zO G ath u3.2.2 ++ []))))))) (As := [.int x1]) (rest := [.ref (am 99)]) C hw hl.1 kX3_changeLimit ml_X8_284 (c_X3_changeLimit l G ath _ u2.1 u2.2 x1 u3 e3) (CutX.skip (CutX.skip (CutX.skip (CutX.take pO_f (CutX.skip (CutX.take zO_f CutX.none)))))) _ (gx_t (gx_t (gx_t (gx_h pO_o)))) rfl ⟨rfl, rfl⟩ ⟨Nat.le_of_ble_eq_true rfl, Nat.le_of_ble_eq_true rfl⟩ rfl ⟨Nat.zero_le _, Nat.zero_le _⟩ rfl (Nat.le_of_ble_eq_true rfl) dX8_would_37 (fun H locs hw => ?_)
      obtain ⟨u4, e4, hf⟩ := bx hf
      refine r_callVi (ws' := (mO G am as_ ar ac an ath ah u4.2 ++ (tO G an t_an ++ (pO G an p_an ++ (pO G ath u3.2.1 ++ (zO G an z_an ++ (zO G ath u3.2.2 ++ []))))))) (As := [.int u3.1]) (rest := []) C hw hl.1 kX8_answer ml_X8_99 (c_X8_answer l G am as_ ar ac an ath ah _ m_am u3.1 u4 e4) (CutX.take mO_f CutX.none) _ (gx_h mO_o) rfl ⟨rfl, rfl⟩ ⟨Nat.le_of_ble_eq_true rfl, Nat.le_of_ble_eq_true rfl⟩ rfl ⟨Nat.zero_le _, Nat.zero_le _⟩ rfl (Nat.le_of_ble_eq_true rfl) dX8_would_40 (fun H locs hw => ?_)
      exact fin_i C hw (Option.some.inj hf) (fun o => o.1) (fun o => (mO G am as_ ar ac an ath ah o.2.1 ++ (tO G an t_an ++ (pO G an p_an ++ (pO G ath o.2.2.1 ++ (zO G an z_an ++ (zO G ath o.2.2.2 ++ []))))))) rfl rfl dX8_would_43
    · replace hf := ifn hf hc
      refine r_aload0 C hl 0 rfl dX8_would_20 ?_
      refine lv_iconst (v := 2) C.1 C.2.1 dX8_would_21 (by decide) ?_
      obtain ⟨u5, e5, hf⟩ := bx hf
      refine r_callVi (ws' := (mO G am as_ ar ac an ath ah u5.2 ++ (tO G an t_an ++ (pO G an p_an ++ (pO G ath p_ath ++ (zO G an z_an ++ (zO G ath z_ath ++ []))))))) (As := [.int 2]) (rest := []) C hw hl.1 kX8_refuse ml_X8_63 (c_X8_refuse l G am as_ ar ac an ath ah _ m_am 2 u5 e5) (CutX.take mO_f CutX.none) _ (gx_h mO_o) rfl ⟨rfl, rfl⟩ ⟨Nat.le_of_ble_eq_true rfl, Nat.le_of_ble_eq_true rfl⟩ rfl ⟨Nat.zero_le _, Nat.zero_le _⟩ rfl (Nat.le_of_ble_eq_true rfl) dX8_would_22 (fun H locs hw => ?_)
      exact fin_i C hw (Option.some.inj hf) (fun o => o.1) (fun o => (mO G am as_ ar ac an ath ah o.2.1 ++ (tO G an t_an ++ (pO G an p_an ++ (pO G ath o.2.2.1 ++ (zO G an z_an ++ (zO G ath o.2.2.2 ++ []))))))) rfl rfl dX8_would_25
  · replace hf := ifp hf hc
    refine r_aload0 C hl 0 rfl dX8_would_7 ?_
    refine lv_iconst (v := 1) C.1 C.2.1 dX8_would_8 (by decide) ?_
    obtain ⟨u6, e6, hf⟩ := bx hf
    refine r_callVi (ws' := (mO G am as_ ar ac an ath ah u6.2 ++ (tO G an t_an ++ (pO G an p_an ++ (pO G ath p_ath ++ (zO G an z_an ++ (zO G ath z_ath ++ []))))))) (As := [.int 1]) (rest := []) C hw hl.1 kX8_refuse ml_X8_63 (c_X8_refuse l G am as_ ar ac an ath ah _ m_am 1 u6 e6) (CutX.take mO_f CutX.none) _ (gx_h mO_o) rfl ⟨rfl, rfl⟩ ⟨Nat.le_of_ble_eq_true rfl, Nat.le_of_ble_eq_true rfl⟩ rfl ⟨Nat.zero_le _, Nat.zero_le _⟩ rfl (Nat.le_of_ble_eq_true rfl) dX8_would_9 (fun H locs hw => ?_)
    exact fin_i C hw (Option.some.inj hf) (fun o => o.1) (fun o => (mO G am as_ ar ac an ath ah o.2.1 ++ (tO G an t_an ++ (pO G an p_an ++ (pO G ath o.2.2.1 ++ (zO G an z_an ++ (zO G ath o.2.2.2 ++ []))))))) rfl rfl dX8_would_12
set_option maxHeartbeats 4000000 in
set_option maxRecDepth 100000 in
theorem c_X8_freeing (l : Launch) (G : GG) (am : Nat → Nat) (as_ : Nat → Nat) (ar : Nat → Nat) (ac : Nat → Nat) (an : Nat → Nat) (ath : Nat → Nat) (ah : Nat → Nat) (sz : Nat) (m_am : Pic) (t_an : Pic) (p_an : Pic) (p_ath : Pic) (z_an : Pic) (z_ath : Pic)  (out : Int32 × Pic × Pic × Pic) (hf : f_X8_freeing m_am t_an p_an p_ath z_an z_ath = some out) : Met l yX8_freeing (.code yX8_freeing cX8_freeing 2 (some .int) :: BT) ({ frames := 4, cells := 0, slots := 0, locals := 88 }) (va_Pc [.ref (am 99)] (PreW G sz (mO G am as_ ar ac an ath ah m_am ++ (tO G an t_an ++ (pO G an p_an ++ (pO G ath p_ath ++ (zO G an z_an ++ (zO G ath z_ath ++ [])))))))) (Ans G out.1 (va_A (mO G am as_ ar ac an ath ah m_am ++ (tO G an t_an ++ (pO G an p_an ++ (pO G ath p_ath ++ (zO G an z_an ++ (zO G ath z_ath ++ [])))))) sz) (mO G am as_ ar ac an ath ah out.2.1 ++ (tO G an t_an ++ (pO G an p_an ++ (pO G ath out.2.2.1 ++ (zO G an z_an ++ (zO G ath out.2.2.2 ++ []))))))) 0 0 (va_A (mO G am as_ ar ac an ath ah m_am ++ (tO G an t_an ++ (pO G an p_an ++ (pO G ath p_ath ++ (zO G an z_an ++ (zO G ath z_ath ++ [])))))) sz) := by
  refine Met.into (by decide) (Nat.le_of_ble_eq_true rfl) ?_
  intro p e s m below meth c C hsz ls hl hw
  have hl : lv_has ls 2 [(0, .ref (am 99))] := hl
  clear hsz
  generalize va_A (mO G am as_ ar ac an ath ah m_am ++ (tO G an t_an ++ (pO G an p_an ++ (pO G ath p_ath ++ (zO G an z_an ++ (zO G ath z_ath ++ [])))))) sz = A at hw ⊢
  have hB_29 : ∀ (k29 : Pic → Pic → Pic → Int32 → Option (Int32 × Pic × Pic × Pic)) (hk29 : ∀ (m_am : Pic) (p_ath : Pic) (z_ath : Pic) (v1 : Int32), k29 m_am p_ath z_ath v1 = some out → ∀ (H : Heap) (locs : List Loc), Wd G A s H locs (mO G am as_ ar ac an ath ah m_am ++ (tO G an t_an ++ (pO G an p_an ++ (pO G ath p_ath ++ (zO G an z_an ++ (zO G ath z_ath ++ [])))))) → ∀ ls : Array Slot, lv_has ls 2 [(0, .ref (am 99)), (1, .int v1)] → W p l e ({ frames := 4, cells := 0, slots := 0, locals := 88 }) s m [.ref (am 99)].toArray below meth c H locs 0 0 (MQ below (Ans G out.1 A (mO G am as_ ar ac an ath ah out.2.1 ++ (tO G an t_an ++ (pO G an p_an ++ (pO G ath out.2.2.1 ++ (zO G an z_an ++ (zO G ath out.2.2.2 ++ []))))))) [.ref (am 99)].toArray s 0 0 A) (F0 m 29 ls [])), ∀ (m_am : Pic) (p_ath : Pic) (z_ath : Pic) (v1 : Int32), b_X8_freeing_29 t_an p_an z_an k29 m_am p_ath z_ath v1 = some out → ∀ (H : Heap) (locs : List Loc), Wd G A s H locs (mO G am as_ ar ac an ath ah m_am ++ (tO G an t_an ++ (pO G an p_an ++ (pO G ath p_ath ++ (zO G an z_an ++ (zO G ath z_ath ++ [])))))) → ∀ ls : Array Slot, lv_has ls 2 [(0, .ref (am 99)), (1, .int v1)] → W p l e ({ frames := 4, cells := 0, slots := 0, locals := 88 }) s m [.ref (am 99)].toArray below meth c H locs 0 0 (MQ below (Ans G out.1 A (mO G am as_ ar ac an ath ah out.2.1 ++ (tO G an t_an ++ (pO G an p_an ++ (pO G ath out.2.2.1 ++ (zO G an z_an ++ (zO G ath out.2.2.2 ++ []))))))) [.ref (am 99)].toArray s 0 0 A) (F0 m 29 ls []) := by
    intro k29 hk29 m_am p_ath z_ath v1 hf H locs hw ls hl
    unfold b_X8_freeing_29 at hf
    refine r_iload0 C hl 1 rfl dX8_freeing_29 ?_
    refine lv_bipush (v := 30) C.1 C.2.1 dX8_freeing_30 (by decide) ?_
    refine lv_icmp_gt (tgt := 91) C.1 C.2.1 dX8_freeing_32 (by decide) (fun hc => ?_) (fun hc => ?_)
    · replace hf := ifp hf hc
      refine r_aload0 C hl 0 rfl dX8_freeing_91 ?_
      refine lv_bipush (v := (-2)) C.1 C.2.1 dX8_freeing_92 (by decide) ?_
      obtain ⟨u2, e2, hf⟩ := bx hf
      refine r_callVi (ws' := (mO G am as_ ar ac an ath ah u2.2 ++ (tO G an t_an ++ (pO G an p_an ++ (pO G ath p_ath ++ (zO G an z_an ++ (zO G ath z_ath ++ []))))))) (As := [.int (-2)]) (rest := []) C hw hl.1 kX8_answer ml_X8_99 (c_X8_answer l G am as_ ar ac an ath ah _ m_am (-2) u2 e2) (CutX.take mO_f CutX.none) _ (gx_h mO_o) rfl ⟨rfl, rfl⟩ ⟨Nat.le_of_ble_eq_true rfl, Nat.le_of_ble_eq_true rfl⟩ rfl ⟨Nat.zero_le _, Nat.zero_le _⟩ rfl (Nat.le_of_ble_eq_true rfl) dX8_freeing_94 (fun H locs hw => ?_)
      exact fin_i C hw (Option.some.inj hf) (fun o => o.1) (fun o => (mO G am as_ ar ac an ath ah o.2.1 ++ (tO G an t_an ++ (pO G an p_an ++ (pO G ath o.2.2.1 ++ (zO G an z_an ++ (zO G ath o.2.2.2 ++ []))))))) rfl rfl dX8_freeing_97
    · replace hf := ifn hf hc
      refine r_aload0 C hl 0 rfl dX8_freeing_35 ?_
      refine r_get C hw _ (gx_h mO_o) 10 fl_X8_44 rfl dX8_freeing_36 ?_
      refine lv_iconst (v := 1) C.1 C.2.1 dX8_freeing_39 (by decide) ?_
      obtain ⟨u3, e3, hf⟩ := bx hf
      refine r_callVi (ws' := (mO G am as_ ar ac an ath ah m_am ++ (tO G an t_an ++ (pO G an p_an ++ (pO G ath u3.2.1 ++ (zO G an z_an ++ (zO G ath u3.2.2 ++ []))))))) (As := [.int 1]) (rest := []) C hw hl.1 kX3_writeColdest ml_X8_287 (c_X3_writeColdest l G ath _ p_ath z_ath 1 u3 e3) (CutX.skip (CutX.skip (CutX.skip (CutX.take pO_f (CutX.skip (CutX.take zO_f CutX.none)))))) _ (gx_t (gx_t (gx_t (gx_h pO_o)))) rfl ⟨rfl, rfl⟩ ⟨Nat.le_of_ble_eq_true rfl, Nat.le_of_ble_eq_true rfl⟩ rfl ⟨Nat.zero_le _, Nat.zero_le _⟩ rfl (Nat.le_of_ble_eq_true rfl) dX8_freeing_40 (fun H locs hw => ?_)
      refine lv_if_ne (tgt := 53) C.1 C.2.1 dX8_freeing_43 (by decide) (fun hc => ?_) (fun hc => ?_)
      · replace hf := ifn hf hc
        refine r_aload0 C hl 0 rfl dX8_freeing_53 ?_
        refine r_get C hw _ (gx_h mO_o) 10 fl_X8_44 rfl dX8_freeing_54 ?_
        refine r_get C hw _ (gx_t (gx_t (gx_t (gx_h pO_o)))) 3 fl_X8_120 rfl dX8_freeing_57 ?_
        refine r_get C hw _ (gx_t (gx_t (gx_t (gx_t (gx_t (gx_h zO_o)))))) 0 fl_X8_124 rfl dX8_freeing_60 ?_
        refine r_aload0 C hl 0 rfl dX8_freeing_63 ?_
        refine r_get C hw _ (gx_h mO_o) 9 fl_X8_37 rfl dX8_freeing_64 ?_
        refine r_get C hw _ (gx_t (gx_h tO_o)) 2 fl_X8_105 rfl dX8_freeing_67 ?_
        refine r_get C hw _ (gx_t (gx_t (gx_h pO_o))) 3 fl_X8_120 rfl dX8_freeing_70 ?_
        refine r_get C hw _ (gx_t (gx_t (gx_t (gx_t (gx_h zO_o))))) 0 fl_X8_124 rfl dX8_freeing_73 ?_
        refine lv_icmp_ge (tgt := 85) C.1 C.2.1 dX8_freeing_76 (by decide) (fun hc => ?_) (fun hc => ?_)
        · replace hf := ifp hf hc
          refine r_iinc C hl 1 (v1 + 1) [(1, .int (v1 + 1)), (0, .ref (am 99))] rfl (iinc_e (by decide)) (by decide) rfl dX8_freeing_85 (fun ls hl => ?_)
          refine lv_goto (tgt := 29) C.1 C.2.1 dX8_freeing_88 (by decide) ?_
          exact hk29 m_am u3.2.1 u3.2.2 (v1 + 1) hf _ _ hw _ (lv_sub hl [1, 0] rfl)
        · replace hf := ifn hf hc
          refine r_aload0 C hl 0 rfl dX8_freeing_79 ?_
          refine r_iload0 C hl 1 rfl dX8_freeing_80 ?_
          obtain ⟨u4, e4, hf⟩ := bx hf
          refine r_callVi (ws' := (mO G am as_ ar ac an ath ah u4.2 ++ (tO G an t_an ++ (pO G an p_an ++ (pO G ath u3.2.1 ++ (zO G an z_an ++ (zO G ath u3.2.2 ++ []))))))) (As := [.int v1]) (rest := []) C hw hl.1 kX8_answer ml_X8_99 (c_X8_answer l G am as_ ar ac an ath ah _ m_am v1 u4 e4) (CutX.take mO_f CutX.none) _ (gx_h mO_o) rfl ⟨rfl, rfl⟩ ⟨Nat.le_of_ble_eq_true rfl, Nat.le_of_ble_eq_true rfl⟩ rfl ⟨Nat.zero_le _, Nat.zero_le _⟩ rfl (Nat.le_of_ble_eq_true rfl) dX8_freeing_81 (fun H locs hw => ?_)
          exact fin_i C hw (Option.some.inj hf) (fun o => o.1) (fun o => (mO G am as_ ar ac an ath ah o.2.1 ++ (tO G an t_an ++ (pO G an p_an ++ (pO G ath o.2.2.1 ++ (zO G an z_an ++ (zO G ath o.2.2.2 ++ []))))))) rfl rfl dX8_freeing_84
      · replace hf := ifp hf hc
        refine r_aload0 C hl 0 rfl dX8_freeing_46 ?_
        refine lv_bipush (v := (-2)) C.1 C.2.1 dX8_freeing_47 (by decide) ?_
        obtain ⟨u5, e5, hf⟩ := bx hf
        refine r_callVi (ws' := (mO G am as_ ar ac an ath ah u5.2 ++ (tO G an t_an ++ (pO G an p_an ++ (pO G ath u3.2.1 ++ (zO G an z_an ++ (zO G ath u3.2.2 ++ []))))))) (As := [.int (-2)]) (rest := []) C hw hl.1 kX8_answer ml_X8_99 (c_X8_answer l G am as_ ar ac an ath ah _ m_am (-2) u5 e5) (CutX.take mO_f CutX.none) _ (gx_h mO_o) rfl ⟨rfl, rfl⟩ ⟨Nat.le_of_ble_eq_true rfl, Nat.le_of_ble_eq_true rfl⟩ rfl ⟨Nat.zero_le _, Nat.zero_le _⟩ rfl (Nat.le_of_ble_eq_true rfl) dX8_freeing_49 (fun H locs hw => ?_)
        exact fin_i C hw (Option.some.inj hf) (fun o => o.1) (fun o => (mO G am as_ ar ac an ath ah o.2.1 ++ (tO G an t_an ++ (pO G an p_an ++ (pO G ath o.2.2.1 ++ (zO G an z_an ++ (zO G ath o.2.2.2 ++ []))))))) rfl rfl dX8_freeing_52
  have hL_29 : ∀ n : Nat, ∀ (m_am : Pic) (p_ath : Pic) (z_ath : Pic) (v1 : Int32), L_X8_freeing_29 t_an p_an z_an  n m_am p_ath z_ath v1 = some out → ∀ (H : Heap) (locs : List Loc), Wd G A s H locs (mO G am as_ ar ac an ath ah m_am ++ (tO G an t_an ++ (pO G an p_an ++ (pO G ath p_ath ++ (zO G an z_an ++ (zO G ath z_ath ++ [])))))) → ∀ ls : Array Slot, lv_has ls 2 [(0, .ref (am 99)), (1, .int v1)] → W p l e ({ frames := 4, cells := 0, slots := 0, locals := 88 }) s m [.ref (am 99)].toArray below meth c H locs 0 0 (MQ below (Ans G out.1 A (mO G am as_ ar ac an ath ah out.2.1 ++ (tO G an t_an ++ (pO G an p_an ++ (pO G ath out.2.2.1 ++ (zO G an z_an ++ (zO G ath out.2.2.2 ++ []))))))) [.ref (am 99)].toArray s 0 0 A) (F0 m 29 ls []) := by
    intro  n
    induction n with
    | zero => intro m_am p_ath z_ath v1 hf; cases hf
    | succ n ih => exact hB_29 _ ih
  unfold f_X8_freeing at hf
  refine r_aload0 C hl 0 rfl dX8_freeing_0 ?_
  refine r_get C hw _ (gx_h mO_o) 2 fl_X8_85 rfl dX8_freeing_1 ?_
  refine lv_if_ne (tgt := 13) C.1 C.2.1 dX8_freeing_4 (by decide) (fun hc => ?_) (fun hc => ?_)
  · replace hf := ifn hf hc
    refine r_aload0 C hl 0 rfl dX8_freeing_13 ?_
    refine r_get C hw _ (gx_h mO_o) 10 fl_X8_44 rfl dX8_freeing_14 ?_
    refine r_aload0 C hl 0 rfl dX8_freeing_17 ?_
    refine r_get C hw _ (gx_h mO_o) 9 fl_X8_37 rfl dX8_freeing_18 ?_
    refine r_get C hw _ (gx_t (gx_h tO_o)) 2 fl_X8_105 rfl dX8_freeing_21 ?_
    obtain ⟨u1, e1, hf⟩ := bx hf
    refine r_callVv (ws' := (mO G am as_ ar ac an ath ah m_am ++ (tO G an t_an ++ (pO G an p_an ++ (pO G ath u1.1 ++ (zO G an z_an ++ (zO G ath u1.2 ++ []))))))) (As := [.ref (an 99)]) (rest := []) C hw hl.1 kX3_copyFrom ml_X8_215 (c_X3_copyFrom l G ath an _ p_ath p_an z_ath z_an u1 e1) (CutX.mk (isC := [15, 16, 17, 18, 19, 20, 21, 22, 23, 24, 5, 6, 7, 8, 9, 10, 11, 12, 13, 14, 31, 32, 33, 34, 35, 36, 25, 26, 27, 28, 29, 30]) (isR := [0, 1, 2, 3, 4]) 37 (by decide) rfl rfl rfl rfl (by decide) rfl) _ (gx_t (gx_t (gx_t (gx_h pO_o)))) rfl ⟨rfl, rfl⟩ ⟨Nat.le_of_ble_eq_true rfl, Nat.le_of_ble_eq_true rfl⟩ rfl ⟨Nat.zero_le _, Nat.zero_le _⟩ rfl (Nat.le_of_ble_eq_true rfl) dX8_freeing_24 (fun H locs hw => ?_)
    refine lv_iconst (v := 1) C.1 C.2.1 dX8_freeing_27 (by decide) ?_
    refine r_istore0 C hl [(1, .int 1), (0, .ref (am 99))] (by decide) rfl dX8_freeing_28 (fun ls hl => ?_)
    exact hL_29  FU m_am u1.1 u1.2 1 hf _ _ hw _ (lv_sub hl [1, 0] rfl)
  · replace hf := ifp hf hc
    refine r_aload0 C hl 0 rfl dX8_freeing_7 ?_
    refine lv_iconst (v := 1) C.1 C.2.1 dX8_freeing_8 (by decide) ?_
    obtain ⟨u6, e6, hf⟩ := bx hf
    refine r_callVi (ws' := (mO G am as_ ar ac an ath ah u6.2 ++ (tO G an t_an ++ (pO G an p_an ++ (pO G ath p_ath ++ (zO G an z_an ++ (zO G ath z_ath ++ []))))))) (As := [.int 1]) (rest := []) C hw hl.1 kX8_refuse ml_X8_63 (c_X8_refuse l G am as_ ar ac an ath ah _ m_am 1 u6 e6) (CutX.take mO_f CutX.none) _ (gx_h mO_o) rfl ⟨rfl, rfl⟩ ⟨Nat.le_of_ble_eq_true rfl, Nat.le_of_ble_eq_true rfl⟩ rfl ⟨Nat.zero_le _, Nat.zero_le _⟩ rfl (Nat.le_of_ble_eq_true rfl) dX8_freeing_9 (fun H locs hw => ?_)
    exact fin_i C hw (Option.some.inj hf) (fun o => o.1) (fun o => (mO G am as_ ar ac an ath ah o.2.1 ++ (tO G an t_an ++ (pO G an p_an ++ (pO G ath o.2.2.1 ++ (zO G an z_an ++ (zO G ath o.2.2.2 ++ []))))))) rfl rfl dX8_freeing_12
set_option maxHeartbeats 4000000 in
set_option maxRecDepth 100000 in
theorem c_X8_holds (l : Launch) (G : GG) (am : Nat → Nat) (as_ : Nat → Nat) (ar : Nat → Nat) (ac : Nat → Nat) (an : Nat → Nat) (ath : Nat → Nat) (ah : Nat → Nat) (sz : Nat) (m_am : Pic) (t_an : Pic) (p_an : Pic) (p_ath : Pic) (z_an : Pic) (z_ath : Pic) (x1 : Int32) (out : Int32 × Pic × Pic × Pic) (hf : f_X8_holds m_am t_an p_an p_ath z_an z_ath x1 = some out) : Met l yX8_holds (.code yX8_holds cX8_holds 2 (some .int) :: BT) ({ frames := 6, cells := 0, slots := 0, locals := 134 }) (va_Pc [.ref (am 99), .int x1] (PreW G sz (mO G am as_ ar ac an ath ah m_am ++ (tO G an t_an ++ (pO G an p_an ++ (pO G ath p_ath ++ (zO G an z_an ++ (zO G ath z_ath ++ [])))))))) (Ans G out.1 (va_A (mO G am as_ ar ac an ath ah m_am ++ (tO G an t_an ++ (pO G an p_an ++ (pO G ath p_ath ++ (zO G an z_an ++ (zO G ath z_ath ++ [])))))) sz) (mO G am as_ ar ac an ath ah out.2.1 ++ (tO G an t_an ++ (pO G an p_an ++ (pO G ath out.2.2.1 ++ (zO G an z_an ++ (zO G ath out.2.2.2 ++ []))))))) 0 0 (va_A (mO G am as_ ar ac an ath ah m_am ++ (tO G an t_an ++ (pO G an p_an ++ (pO G ath p_ath ++ (zO G an z_an ++ (zO G ath z_ath ++ [])))))) sz) := by
  refine Met.into (by decide) (Nat.le_of_ble_eq_true rfl) ?_
  intro p e s m below meth c C hsz ls hl hw
  have hl : lv_has ls 2 [(0, .ref (am 99)), (1, .int x1)] := hl
  clear hsz
  generalize va_A (mO G am as_ ar ac an ath ah m_am ++ (tO G an t_an ++ (pO G an p_an ++ (pO G ath p_ath ++ (zO G an z_an ++ (zO G ath z_ath ++ [])))))) sz = A at hw ⊢
  unfold f_X8_holds at hf
  refine r_aload0 C hl 0 rfl dX8_holds_0 ?_
  refine r_get C hw _ (gx_h mO_o) 2 fl_X8_85 rfl dX8_holds_1 ?_
  refine lv_if_ne (tgt := 13) C.1 C.2.1 dX8_holds_4 (by decide) (fun hc => ?_) (fun hc => ?_)
  · replace hf := ifn hf hc
    refine r_aload0 C hl 0 rfl dX8_holds_13 ?_
    refine r_iload0 C hl 1 rfl dX8_holds_14 ?_
    obtain ⟨u1, e1, hf⟩ := bx hf
    refine r_callVv (ws' := (mO G am as_ ar ac an ath ah m_am ++ (tO G an t_an ++ (pO G an p_an ++ (pO G ath u1.1 ++ (zO G an z_an ++ (zO G ath u1.2 ++ []))))))) (As := [.int x1]) (rest := []) C hw hl.1 kX8_thinkOfPool ml_X8_280 (c_X8_thinkOfPool l G am as_ ar ac an ath ah _ m_am t_an p_an p_ath z_an z_ath x1 u1 e1) (CutX.take mO_f (CutX.take tO_f (CutX.take pO_f (CutX.take pO_f (CutX.take zO_f (CutX.take zO_f CutX.none)))))) _ (gx_h mO_o) rfl ⟨rfl, rfl⟩ ⟨Nat.le_of_ble_eq_true rfl, Nat.le_of_ble_eq_true rfl⟩ rfl ⟨Nat.zero_le _, Nat.zero_le _⟩ rfl (Nat.le_of_ble_eq_true rfl) dX8_holds_15 (fun H locs hw => ?_)
    refine r_aload0 C hl 0 rfl dX8_holds_18 ?_
    refine r_get C hw _ (gx_h mO_o) 10 fl_X8_44 rfl dX8_holds_19 ?_
    obtain ⟨u2, e2, hf⟩ := bx hf
    refine r_callVi (ws' := (mO G am as_ ar ac an ath ah m_am ++ (tO G an t_an ++ (pO G an p_an ++ (pO G ath u1.1 ++ (zO G an z_an ++ (zO G ath u1.2 ++ []))))))) (As := []) (rest := []) C hw hl.1 kX3_coldestLoose ml_X8_290 (c_X3_coldestLoose l G ath _ u1.1 u2 e2) (CutX.skip (CutX.skip (CutX.skip (CutX.take pO_f CutX.none)))) _ (gx_t (gx_t (gx_t (gx_h pO_o)))) rfl ⟨rfl, rfl⟩ ⟨Nat.le_of_ble_eq_true rfl, Nat.le_of_ble_eq_true rfl⟩ rfl ⟨Nat.zero_le _, Nat.zero_le _⟩ rfl (Nat.le_of_ble_eq_true rfl) dX8_holds_22 (fun H locs hw => ?_)
    refine lv_if_ge (tgt := 34) C.1 C.2.1 dX8_holds_25 (by decide) (fun hc => ?_) (fun hc => ?_)
    · replace hf := ifp hf hc
      refine r_aload0 C hl 0 rfl dX8_holds_34 ?_
      refine lv_iconst (v := 1) C.1 C.2.1 dX8_holds_35 (by decide) ?_
      refine r_aload0 C hl 0 rfl dX8_holds_36 ?_
      refine r_get C hw _ (gx_h mO_o) 10 fl_X8_44 rfl dX8_holds_37 ?_
      refine r_get C hw _ (gx_t (gx_t (gx_t (gx_h pO_o)))) 3 fl_X8_120 rfl dX8_holds_40 ?_
      refine r_get C hw _ (gx_t (gx_t (gx_t (gx_t (gx_t (gx_h zO_o)))))) 0 fl_X8_124 rfl dX8_holds_43 ?_
      refine r_max C hl.1 ml_X8_293 (Nat.le_of_ble_eq_true rfl) (Nat.le_of_ble_eq_true rfl) ⟨Nat.zero_le _, Nat.zero_le _⟩ dX8_holds_46 ?_
      obtain ⟨u4, e4, hf⟩ := bx hf
      refine r_callVi (ws' := (mO G am as_ ar ac an ath ah u4.2 ++ (tO G an t_an ++ (pO G an p_an ++ (pO G ath u1.1 ++ (zO G an z_an ++ (zO G ath u1.2 ++ []))))))) (As := [.int (if 1 < (gS u1.2 0) then (gS u1.2 0) else 1)]) (rest := []) C hw hl.1 kX8_answer ml_X8_99 (c_X8_answer l G am as_ ar ac an ath ah _ m_am (if 1 < (gS u1.2 0) then (gS u1.2 0) else 1) u4 e4) (CutX.take mO_f CutX.none) _ (gx_h mO_o) rfl ⟨rfl, rfl⟩ ⟨Nat.le_of_ble_eq_true rfl, Nat.le_of_ble_eq_true rfl⟩ rfl ⟨Nat.zero_le _, Nat.zero_le _⟩ rfl (Nat.le_of_ble_eq_true rfl) dX8_holds_49 (fun H locs hw => ?_)
      exact fin_i C hw (Option.some.inj hf) (fun o => o.1) (fun o => (mO G am as_ ar ac an ath ah o.2.1 ++ (tO G an t_an ++ (pO G an p_an ++ (pO G ath o.2.2.1 ++ (zO G an z_an ++ (zO G ath o.2.2.2 ++ []))))))) rfl rfl dX8_holds_52
    · replace hf := ifn hf hc
      refine r_aload0 C hl 0 rfl dX8_holds_28 ?_
      refine lv_iconst (v := 1) C.1 C.2.1 dX8_holds_29 (by decide) ?_
      obtain ⟨u5, e5, hf⟩ := bx hf
      refine r_callVi (ws' := (mO G am as_ ar ac an ath ah u5.2 ++ (tO G an t_an ++ (pO G an p_an ++ (pO G ath u1.1 ++ (zO G an z_an ++ (zO G ath u1.2 ++ []))))))) (As := [.int 1]) (rest := []) C hw hl.1 kX8_answer ml_X8_99 (c_X8_answer l G am as_ ar ac an ath ah _ m_am 1 u5 e5) (CutX.take mO_f CutX.none) _ (gx_h mO_o) rfl ⟨rfl, rfl⟩ ⟨Nat.le_of_ble_eq_true rfl, Nat.le_of_ble_eq_true rfl⟩ rfl ⟨Nat.zero_le _, Nat.zero_le _⟩ rfl (Nat.le_of_ble_eq_true rfl) dX8_holds_30 (fun H locs hw => ?_)
      exact fin_i C hw (Option.some.inj hf) (fun o => o.1) (fun o => (mO G am as_ ar ac an ath ah o.2.1 ++ (tO G an t_an ++ (pO G an p_an ++ (pO G ath o.2.2.1 ++ (zO G an z_an ++ (zO G ath o.2.2.2 ++ []))))))) rfl rfl dX8_holds_33
  · replace hf := ifp hf hc
    refine r_aload0 C hl 0 rfl dX8_holds_7 ?_
    refine lv_iconst (v := 1) C.1 C.2.1 dX8_holds_8 (by decide) ?_
    obtain ⟨u6, e6, hf⟩ := bx hf
    refine r_callVi (ws' := (mO G am as_ ar ac an ath ah u6.2 ++ (tO G an t_an ++ (pO G an p_an ++ (pO G ath p_ath ++ (zO G an z_an ++ (zO G ath z_ath ++ []))))))) (As := [.int 1]) (rest := []) C hw hl.1 kX8_refuse ml_X8_63 (c_X8_refuse l G am as_ ar ac an ath ah _ m_am 1 u6 e6) (CutX.take mO_f CutX.none) _ (gx_h mO_o) rfl ⟨rfl, rfl⟩ ⟨Nat.le_of_ble_eq_true rfl, Nat.le_of_ble_eq_true rfl⟩ rfl ⟨Nat.zero_le _, Nat.zero_le _⟩ rfl (Nat.le_of_ble_eq_true rfl) dX8_holds_9 (fun H locs hw => ?_)
    exact fin_i C hw (Option.some.inj hf) (fun o => o.1) (fun o => (mO G am as_ ar ac an ath ah o.2.1 ++ (tO G an t_an ++ (pO G an p_an ++ (pO G ath o.2.2.1 ++ (zO G an z_an ++ (zO G ath o.2.2.2 ++ []))))))) rfl rfl dX8_holds_12
set_option maxHeartbeats 4000000 in
set_option maxRecDepth 100000 in
theorem c_X8_pushes (l : Launch) (G : GG) (am : Nat → Nat) (as_ : Nat → Nat) (ar : Nat → Nat) (ac : Nat → Nat) (an : Nat → Nat) (ath : Nat → Nat) (ah : Nat → Nat) (sz : Nat) (m_am : Pic) (s_as_ : Pic) (t_an : Pic) (p_an : Pic) (p_ath : Pic) (z_an : Pic) (z_ath : Pic) (x1 x2 : Int32) (out : Int32 × Pic × Pic × Pic) (hf : f_X8_pushes m_am s_as_ t_an p_an p_ath z_an z_ath x1 x2 = some out) : Met l yX8_pushes (.code yX8_pushes cX8_pushes 3 (some .int) :: BT) ({ frames := 6, cells := 0, slots := 0, locals := 139 }) (va_Pc [.ref (am 99), .int x1, .int x2] (PreW G sz (mO G am as_ ar ac an ath ah m_am ++ (sO G as_ s_as_ ++ (tO G an t_an ++ (pO G an p_an ++ (pO G ath p_ath ++ (zO G an z_an ++ (zO G ath z_ath ++ []))))))))) (Ans G out.1 (va_A (mO G am as_ ar ac an ath ah m_am ++ (sO G as_ s_as_ ++ (tO G an t_an ++ (pO G an p_an ++ (pO G ath p_ath ++ (zO G an z_an ++ (zO G ath z_ath ++ []))))))) sz) (mO G am as_ ar ac an ath ah out.2.1 ++ (sO G as_ s_as_ ++ (tO G an t_an ++ (pO G an p_an ++ (pO G ath out.2.2.1 ++ (zO G an z_an ++ (zO G ath out.2.2.2 ++ [])))))))) 0 0 (va_A (mO G am as_ ar ac an ath ah m_am ++ (sO G as_ s_as_ ++ (tO G an t_an ++ (pO G an p_an ++ (pO G ath p_ath ++ (zO G an z_an ++ (zO G ath z_ath ++ []))))))) sz) := by
  refine Met.into (by decide) (Nat.le_of_ble_eq_true rfl) ?_
  intro p e s m below meth c C hsz ls hl hw
  have hl : lv_has ls 3 [(0, .ref (am 99)), (1, .int x1), (2, .int x2)] := hl
  clear hsz
  generalize va_A (mO G am as_ ar ac an ath ah m_am ++ (sO G as_ s_as_ ++ (tO G an t_an ++ (pO G an p_an ++ (pO G ath p_ath ++ (zO G an z_an ++ (zO G ath z_ath ++ []))))))) sz = A at hw ⊢
  have hB_16 : ∀ (m_am : Pic) (p_ath : Pic) (z_ath : Pic), b_X8_pushes_16 s_as_ t_an p_an z_an x1 x2  m_am p_ath z_ath = some out → ∀ (H : Heap) (locs : List Loc), Wd G A s H locs (mO G am as_ ar ac an ath ah m_am ++ (sO G as_ s_as_ ++ (tO G an t_an ++ (pO G an p_an ++ (pO G ath p_ath ++ (zO G an z_an ++ (zO G ath z_ath ++ []))))))) → ∀ ls : Array Slot, lv_has ls 3 [(0, .ref (am 99))] → W p l e ({ frames := 6, cells := 0, slots := 0, locals := 139 }) s m [.ref (am 99), .int x1, .int x2].toArray below meth c H locs 0 0 (MQ below (Ans G out.1 A (mO G am as_ ar ac an ath ah out.2.1 ++ (sO G as_ s_as_ ++ (tO G an t_an ++ (pO G an p_an ++ (pO G ath out.2.2.1 ++ (zO G an z_an ++ (zO G ath out.2.2.2 ++ [])))))))) [.ref (am 99), .int x1, .int x2].toArray s 0 0 A) (F0 m 16 ls []) := by
    intro m_am p_ath z_ath hf H locs hw ls hl
    unfold b_X8_pushes_16 at hf
    refine r_aload0 C hl 0 rfl dX8_pushes_16 ?_
    refine lv_iconst (v := 1) C.1 C.2.1 dX8_pushes_17 (by decide) ?_
    obtain ⟨u2, e2, hf⟩ := bx hf
    refine r_callVi (ws' := (mO G am as_ ar ac an ath ah u2.2 ++ (sO G as_ s_as_ ++ (tO G an t_an ++ (pO G an p_an ++ (pO G ath p_ath ++ (zO G an z_an ++ (zO G ath z_ath ++ [])))))))) (As := [.int 1]) (rest := []) C hw hl.1 kX8_refuse ml_X8_63 (c_X8_refuse l G am as_ ar ac an ath ah _ m_am 1 u2 e2) (CutX.take mO_f CutX.none) _ (gx_h mO_o) rfl ⟨rfl, rfl⟩ ⟨Nat.le_of_ble_eq_true rfl, Nat.le_of_ble_eq_true rfl⟩ rfl ⟨Nat.zero_le _, Nat.zero_le _⟩ rfl (Nat.le_of_ble_eq_true rfl) dX8_pushes_18 (fun H locs hw => ?_)
    exact fin_i C hw (Option.some.inj hf) (fun o => o.1) (fun o => (mO G am as_ ar ac an ath ah o.2.1 ++ (sO G as_ s_as_ ++ (tO G an t_an ++ (pO G an p_an ++ (pO G ath o.2.2.1 ++ (zO G an z_an ++ (zO G ath o.2.2.2 ++ [])))))))) rfl rfl dX8_pushes_21
  unfold f_X8_pushes at hf
  refine r_aload0 C hl 0 rfl dX8_pushes_0 ?_
  refine r_iload0 C hl 1 rfl dX8_pushes_1 ?_
  obtain ⟨u1, e1, hf⟩ := bx hf
  refine r_callVi (ws' := (mO G am as_ ar ac an ath ah m_am ++ (sO G as_ s_as_ ++ (tO G an t_an ++ (pO G an p_an ++ (pO G ath p_ath ++ (zO G an z_an ++ (zO G ath z_ath ++ [])))))))) (As := [.int x1]) (rest := []) C hw hl.1 kX8_noPage ml_X8_247 (c_X8_noPage l G am as_ ar ac an ath ah _ m_am x1 u1 e1) (CutX.take mO_f CutX.none) _ (gx_h mO_o) rfl ⟨rfl, rfl⟩ ⟨Nat.le_of_ble_eq_true rfl, Nat.le_of_ble_eq_true rfl⟩ rfl ⟨Nat.zero_le _, Nat.zero_le _⟩ rfl (Nat.le_of_ble_eq_true rfl) dX8_pushes_2 (fun H locs hw => ?_)
  refine lv_if_ne (tgt := 16) C.1 C.2.1 dX8_pushes_5 (by decide) (fun hc => ?_) (fun hc => ?_)
  · replace hf := ifn hf hc
    exact hB_16  m_am p_ath z_ath hf _ _ hw _ (lv_sub hl [0] rfl)
  · replace hf := ifp hf hc
    refine r_aload0 C hl 0 rfl dX8_pushes_8 ?_
    refine r_iload0 C hl 2 rfl dX8_pushes_9 ?_
    obtain ⟨u3, e3, hf⟩ := bx hf
    refine r_callVi (ws' := (mO G am as_ ar ac an ath ah m_am ++ (sO G as_ s_as_ ++ (tO G an t_an ++ (pO G an p_an ++ (pO G ath p_ath ++ (zO G an z_an ++ (zO G ath z_ath ++ [])))))))) (As := [.int x2]) (rest := []) C hw hl.1 kX8_noData ml_X8_141 (c_X8_noData l G am as_ ar ac an ath ah _ m_am s_as_ x2 u3 e3) (CutX.take mO_f (CutX.take sO_f CutX.none)) _ (gx_h mO_o) rfl ⟨rfl, rfl⟩ ⟨Nat.le_of_ble_eq_true rfl, Nat.le_of_ble_eq_true rfl⟩ rfl ⟨Nat.zero_le _, Nat.zero_le _⟩ rfl (Nat.le_of_ble_eq_true rfl) dX8_pushes_10 (fun H locs hw => ?_)
    refine lv_if_eq (tgt := 22) C.1 C.2.1 dX8_pushes_13 (by decide) (fun hc => ?_) (fun hc => ?_)
    · replace hf := ifp hf hc
      refine r_aload0 C hl 0 rfl dX8_pushes_22 ?_
      refine r_iload0 C hl 1 rfl dX8_pushes_23 ?_
      refine r_iload0 C hl 2 rfl dX8_pushes_24 ?_
      obtain ⟨u4, e4, hf⟩ := bx hf
      refine r_callVv (ws' := (mO G am as_ ar ac an ath ah m_am ++ (sO G as_ s_as_ ++ (tO G an t_an ++ (pO G an p_an ++ (pO G ath u4.1 ++ (zO G an z_an ++ (zO G ath u4.2 ++ [])))))))) (As := [.int x1, .int x2]) (rest := []) C hw hl.1 kX8_thinkOfStoring ml_X8_298 (c_X8_thinkOfStoring l G am as_ ar ac an ath ah _ m_am t_an p_an p_ath z_an z_ath x1 x2 u4 e4) (CutX.take mO_f (CutX.skip (CutX.take tO_f (CutX.take pO_f (CutX.take pO_f (CutX.take zO_f (CutX.take zO_f CutX.none))))))) _ (gx_h mO_o) rfl ⟨rfl, rfl⟩ ⟨Nat.le_of_ble_eq_true rfl, Nat.le_of_ble_eq_true rfl⟩ rfl ⟨Nat.zero_le _, Nat.zero_le _⟩ rfl (Nat.le_of_ble_eq_true rfl) dX8_pushes_25 (fun H locs hw => ?_)
      refine r_aload0 C hl 0 rfl dX8_pushes_28 ?_
      refine r_aload0 C hl 0 rfl dX8_pushes_29 ?_
      refine r_get C hw _ (gx_h mO_o) 10 fl_X8_44 rfl dX8_pushes_30 ?_
      refine r_get C hw _ (gx_t (gx_t (gx_t (gx_t (gx_h pO_o))))) 14 fl_X8_302 rfl dX8_pushes_33 ?_
      obtain ⟨u5, e5, hf⟩ := bx hf
      refine r_callVi (ws' := (mO G am as_ ar ac an ath ah u5.2 ++ (sO G as_ s_as_ ++ (tO G an t_an ++ (pO G an p_an ++ (pO G ath u4.1 ++ (zO G an z_an ++ (zO G ath u4.2 ++ [])))))))) (As := [.int (gS u4.1 14)]) (rest := []) C hw hl.1 kX8_answer ml_X8_99 (c_X8_answer l G am as_ ar ac an ath ah _ m_am (gS u4.1 14) u5 e5) (CutX.take mO_f CutX.none) _ (gx_h mO_o) rfl ⟨rfl, rfl⟩ ⟨Nat.le_of_ble_eq_true rfl, Nat.le_of_ble_eq_true rfl⟩ rfl ⟨Nat.zero_le _, Nat.zero_le _⟩ rfl (Nat.le_of_ble_eq_true rfl) dX8_pushes_36 (fun H locs hw => ?_)
      exact fin_i C hw (Option.some.inj hf) (fun o => o.1) (fun o => (mO G am as_ ar ac an ath ah o.2.1 ++ (sO G as_ s_as_ ++ (tO G an t_an ++ (pO G an p_an ++ (pO G ath o.2.2.1 ++ (zO G an z_an ++ (zO G ath o.2.2.2 ++ [])))))))) rfl rfl dX8_pushes_39
    · replace hf := ifn hf hc
      exact hB_16  m_am p_ath z_ath hf _ _ hw _ (lv_sub hl [0] rfl)
set_option maxHeartbeats 4000000 in
set_option maxRecDepth 100000 in
theorem c_X8_pushed (l : Launch) (G : GG) (am : Nat → Nat) (as_ : Nat → Nat) (ar : Nat → Nat) (ac : Nat → Nat) (an : Nat → Nat) (ath : Nat → Nat) (ah : Nat → Nat) (sz : Nat) (m_am : Pic) (s_as_ : Pic) (t_an : Pic) (p_an : Pic) (p_ath : Pic) (z_an : Pic) (z_ath : Pic) (x1 x2 x3 : Int32) (out : Int32 × Pic × Pic × Pic) (hf : f_X8_pushed m_am s_as_ t_an p_an p_ath z_an z_ath x1 x2 x3 = some out) : Met l yX8_pushed (.code yX8_pushed cX8_pushed 4 (some .int) :: BT) ({ frames := 6, cells := 0, slots := 0, locals := 139 }) (va_Pc [.ref (am 99), .int x1, .int x2, .int x3] (PreW G sz (mO G am as_ ar ac an ath ah m_am ++ (sO G as_ s_as_ ++ (tO G an t_an ++ (pO G an p_an ++ (pO G ath p_ath ++ (zO G an z_an ++ (zO G ath z_ath ++ []))))))))) (Ans G out.1 (va_A (mO G am as_ ar ac an ath ah m_am ++ (sO G as_ s_as_ ++ (tO G an t_an ++ (pO G an p_an ++ (pO G ath p_ath ++ (zO G an z_an ++ (zO G ath z_ath ++ []))))))) sz) (mO G am as_ ar ac an ath ah out.2.1 ++ (sO G as_ s_as_ ++ (tO G an t_an ++ (pO G an p_an ++ (pO G ath out.2.2.1 ++ (zO G an z_an ++ (zO G ath out.2.2.2 ++ [])))))))) 0 0 (va_A (mO G am as_ ar ac an ath ah m_am ++ (sO G as_ s_as_ ++ (tO G an t_an ++ (pO G an p_an ++ (pO G ath p_ath ++ (zO G an z_an ++ (zO G ath z_ath ++ []))))))) sz) := by
  refine Met.into (by decide) (Nat.le_of_ble_eq_true rfl) ?_
  intro p e s m below meth c C hsz ls hl hw
  have hl : lv_has ls 4 [(0, .ref (am 99)), (1, .int x1), (2, .int x2), (3, .int x3)] := hl
  clear hsz
  generalize va_A (mO G am as_ ar ac an ath ah m_am ++ (sO G as_ s_as_ ++ (tO G an t_an ++ (pO G an p_an ++ (pO G ath p_ath ++ (zO G an z_an ++ (zO G ath z_ath ++ []))))))) sz = A at hw ⊢
  have hB_16 : ∀ (m_am : Pic) (p_ath : Pic) (z_ath : Pic), b_X8_pushed_16 s_as_ t_an p_an z_an x1 x2 x3  m_am p_ath z_ath = some out → ∀ (H : Heap) (locs : List Loc), Wd G A s H locs (mO G am as_ ar ac an ath ah m_am ++ (sO G as_ s_as_ ++ (tO G an t_an ++ (pO G an p_an ++ (pO G ath p_ath ++ (zO G an z_an ++ (zO G ath z_ath ++ []))))))) → ∀ ls : Array Slot, lv_has ls 4 [(0, .ref (am 99))] → W p l e ({ frames := 6, cells := 0, slots := 0, locals := 139 }) s m [.ref (am 99), .int x1, .int x2, .int x3].toArray below meth c H locs 0 0 (MQ below (Ans G out.1 A (mO G am as_ ar ac an ath ah out.2.1 ++ (sO G as_ s_as_ ++ (tO G an t_an ++ (pO G an p_an ++ (pO G ath out.2.2.1 ++ (zO G an z_an ++ (zO G ath out.2.2.2 ++ [])))))))) [.ref (am 99), .int x1, .int x2, .int x3].toArray s 0 0 A) (F0 m 16 ls []) := by
    intro m_am p_ath z_ath hf H locs hw ls hl
    unfold b_X8_pushed_16 at hf
    refine r_aload0 C hl 0 rfl dX8_pushed_16 ?_
    refine lv_iconst (v := 1) C.1 C.2.1 dX8_pushed_17 (by decide) ?_
    obtain ⟨u2, e2, hf⟩ := bx hf
    refine r_callVi (ws' := (mO G am as_ ar ac an ath ah u2.2 ++ (sO G as_ s_as_ ++ (tO G an t_an ++ (pO G an p_an ++ (pO G ath p_ath ++ (zO G an z_an ++ (zO G ath z_ath ++ [])))))))) (As := [.int 1]) (rest := []) C hw hl.1 kX8_refuse ml_X8_63 (c_X8_refuse l G am as_ ar ac an ath ah _ m_am 1 u2 e2) (CutX.take mO_f CutX.none) _ (gx_h mO_o) rfl ⟨rfl, rfl⟩ ⟨Nat.le_of_ble_eq_true rfl, Nat.le_of_ble_eq_true rfl⟩ rfl ⟨Nat.zero_le _, Nat.zero_le _⟩ rfl (Nat.le_of_ble_eq_true rfl) dX8_pushed_18 (fun H locs hw => ?_)
    exact fin_i C hw (Option.some.inj hf) (fun o => o.1) (fun o => (mO G am as_ ar ac an ath ah o.2.1 ++ (sO G as_ s_as_ ++ (tO G an t_an ++ (pO G an p_an ++ (pO G ath o.2.2.1 ++ (zO G an z_an ++ (zO G ath o.2.2.2 ++ [])))))))) rfl rfl dX8_pushed_21
  have hB_43 : ∀ (m_am : Pic) (p_ath : Pic) (z_ath : Pic), b_X8_pushed_43 s_as_ t_an p_an z_an x1 x2 x3  m_am p_ath z_ath = some out → ∀ (H : Heap) (locs : List Loc), Wd G A s H locs (mO G am as_ ar ac an ath ah m_am ++ (sO G as_ s_as_ ++ (tO G an t_an ++ (pO G an p_an ++ (pO G ath p_ath ++ (zO G an z_an ++ (zO G ath z_ath ++ []))))))) → ∀ ls : Array Slot, lv_has ls 4 [(0, .ref (am 99))] → W p l e ({ frames := 6, cells := 0, slots := 0, locals := 139 }) s m [.ref (am 99), .int x1, .int x2, .int x3].toArray below meth c H locs 0 0 (MQ below (Ans G out.1 A (mO G am as_ ar ac an ath ah out.2.1 ++ (sO G as_ s_as_ ++ (tO G an t_an ++ (pO G an p_an ++ (pO G ath out.2.2.1 ++ (zO G an z_an ++ (zO G ath out.2.2.2 ++ [])))))))) [.ref (am 99), .int x1, .int x2, .int x3].toArray s 0 0 A) (F0 m 43 ls []) := by
    intro m_am p_ath z_ath hf H locs hw ls hl
    unfold b_X8_pushed_43 at hf
    refine r_aload0 C hl 0 rfl dX8_pushed_43 ?_
    refine lv_iconst (v := 1) C.1 C.2.1 dX8_pushed_44 (by decide) ?_
    obtain ⟨u5, e5, hf⟩ := bx hf
    refine r_callVi (ws' := (mO G am as_ ar ac an ath ah u5.2 ++ (sO G as_ s_as_ ++ (tO G an t_an ++ (pO G an p_an ++ (pO G ath p_ath ++ (zO G an z_an ++ (zO G ath z_ath ++ [])))))))) (As := [.int 1]) (rest := []) C hw hl.1 kX8_refuse ml_X8_63 (c_X8_refuse l G am as_ ar ac an ath ah _ m_am 1 u5 e5) (CutX.take mO_f CutX.none) _ (gx_h mO_o) rfl ⟨rfl, rfl⟩ ⟨Nat.le_of_ble_eq_true rfl, Nat.le_of_ble_eq_true rfl⟩ rfl ⟨Nat.zero_le _, Nat.zero_le _⟩ rfl (Nat.le_of_ble_eq_true rfl) dX8_pushed_45 (fun H locs hw => ?_)
    exact fin_i C hw (Option.some.inj hf) (fun o => o.1) (fun o => (mO G am as_ ar ac an ath ah o.2.1 ++ (sO G as_ s_as_ ++ (tO G an t_an ++ (pO G an p_an ++ (pO G ath o.2.2.1 ++ (zO G an z_an ++ (zO G ath o.2.2.2 ++ [])))))))) rfl rfl dX8_pushed_48
  unfold f_X8_pushed at hf
  refine r_aload0 C hl 0 rfl dX8_pushed_0 ?_
  refine r_iload0 C hl 1 rfl dX8_pushed_1 ?_
  obtain ⟨u1, e1, hf⟩ := bx hf
  refine r_callVi (ws' := (mO G am as_ ar ac an ath ah m_am ++ (sO G as_ s_as_ ++ (tO G an t_an ++ (pO G an p_an ++ (pO G ath p_ath ++ (zO G an z_an ++ (zO G ath z_ath ++ [])))))))) (As := [.int x1]) (rest := []) C hw hl.1 kX8_noPage ml_X8_247 (c_X8_noPage l G am as_ ar ac an ath ah _ m_am x1 u1 e1) (CutX.take mO_f CutX.none) _ (gx_h mO_o) rfl ⟨rfl, rfl⟩ ⟨Nat.le_of_ble_eq_true rfl, Nat.le_of_ble_eq_true rfl⟩ rfl ⟨Nat.zero_le _, Nat.zero_le _⟩ rfl (Nat.le_of_ble_eq_true rfl) dX8_pushed_2 (fun H locs hw => ?_)
  refine lv_if_ne (tgt := 16) C.1 C.2.1 dX8_pushed_5 (by decide) (fun hc => ?_) (fun hc => ?_)
  · replace hf := ifn hf hc
    exact hB_16  m_am p_ath z_ath hf _ _ hw _ (lv_sub hl [0] rfl)
  · replace hf := ifp hf hc
    refine r_aload0 C hl 0 rfl dX8_pushed_8 ?_
    refine r_iload0 C hl 2 rfl dX8_pushed_9 ?_
    obtain ⟨u3, e3, hf⟩ := bx hf
    refine r_callVi (ws' := (mO G am as_ ar ac an ath ah m_am ++ (sO G as_ s_as_ ++ (tO G an t_an ++ (pO G an p_an ++ (pO G ath p_ath ++ (zO G an z_an ++ (zO G ath z_ath ++ [])))))))) (As := [.int x2]) (rest := []) C hw hl.1 kX8_noData ml_X8_141 (c_X8_noData l G am as_ ar ac an ath ah _ m_am s_as_ x2 u3 e3) (CutX.take mO_f (CutX.take sO_f CutX.none)) _ (gx_h mO_o) rfl ⟨rfl, rfl⟩ ⟨Nat.le_of_ble_eq_true rfl, Nat.le_of_ble_eq_true rfl⟩ rfl ⟨Nat.zero_le _, Nat.zero_le _⟩ rfl (Nat.le_of_ble_eq_true rfl) dX8_pushed_10 (fun H locs hw => ?_)
    refine lv_if_eq (tgt := 22) C.1 C.2.1 dX8_pushed_13 (by decide) (fun hc => ?_) (fun hc => ?_)
    · replace hf := ifp hf hc
      refine r_aload0 C hl 0 rfl dX8_pushed_22 ?_
      refine r_iload0 C hl 1 rfl dX8_pushed_23 ?_
      refine r_iload0 C hl 2 rfl dX8_pushed_24 ?_
      obtain ⟨u4, e4, hf⟩ := bx hf
      refine r_callVv (ws' := (mO G am as_ ar ac an ath ah m_am ++ (sO G as_ s_as_ ++ (tO G an t_an ++ (pO G an p_an ++ (pO G ath u4.1 ++ (zO G an z_an ++ (zO G ath u4.2 ++ [])))))))) (As := [.int x1, .int x2]) (rest := []) C hw hl.1 kX8_thinkOfStoring ml_X8_298 (c_X8_thinkOfStoring l G am as_ ar ac an ath ah _ m_am t_an p_an p_ath z_an z_ath x1 x2 u4 e4) (CutX.take mO_f (CutX.skip (CutX.take tO_f (CutX.take pO_f (CutX.take pO_f (CutX.take zO_f (CutX.take zO_f CutX.none))))))) _ (gx_h mO_o) rfl ⟨rfl, rfl⟩ ⟨Nat.le_of_ble_eq_true rfl, Nat.le_of_ble_eq_true rfl⟩ rfl ⟨Nat.zero_le _, Nat.zero_le _⟩ rfl (Nat.le_of_ble_eq_true rfl) dX8_pushed_25 (fun H locs hw => ?_)
      refine r_iload0 C hl 3 rfl dX8_pushed_28 ?_
      refine lv_if_lt (tgt := 43) C.1 C.2.1 dX8_pushed_29 (by decide) (fun hc => ?_) (fun hc => ?_)
      · replace hf := ifp hf hc
        exact hB_43  m_am u4.1 u4.2 hf _ _ hw _ (lv_sub hl [0] rfl)
      · replace hf := ifn hf hc
        refine r_iload0 C hl 3 rfl dX8_pushed_32 ?_
        refine r_aload0 C hl 0 rfl dX8_pushed_33 ?_
        refine r_get C hw _ (gx_h mO_o) 10 fl_X8_44 rfl dX8_pushed_34 ?_
        refine r_get C hw _ (gx_t (gx_t (gx_t (gx_t (gx_h pO_o))))) 14 fl_X8_302 rfl dX8_pushed_37 ?_
        refine lv_icmp_lt (tgt := 49) C.1 C.2.1 dX8_pushed_40 (by decide) (fun hc => ?_) (fun hc => ?_)
        · replace hf := ifp hf hc
          refine r_aload0 C hl 0 rfl dX8_pushed_49 ?_
          refine r_aload0 C hl 0 rfl dX8_pushed_50 ?_
          refine r_get C hw _ (gx_h mO_o) 10 fl_X8_44 rfl dX8_pushed_51 ?_
          refine r_get C hw _ (gx_t (gx_t (gx_t (gx_t (gx_h pO_o))))) 13 fl_X8_305 rfl dX8_pushed_54 ?_
          refine r_iload0 C hl 3 rfl dX8_pushed_57 ?_
          obtain ⟨v6_, e6, hf⟩ := bx hf
          refine r_iald C hw _ (gx_t (gx_t (gx_t (gx_t (gx_h pO_g13))))) e6 dX8_pushed_58 ?_
          obtain ⟨u7, e7, hf⟩ := bx hf
          refine r_callVi (ws' := (mO G am as_ ar ac an ath ah u7.2 ++ (sO G as_ s_as_ ++ (tO G an t_an ++ (pO G an p_an ++ (pO G ath u4.1 ++ (zO G an z_an ++ (zO G ath u4.2 ++ [])))))))) (As := [.int v6_]) (rest := []) C hw hl.1 kX8_answer ml_X8_99 (c_X8_answer l G am as_ ar ac an ath ah _ m_am v6_ u7 e7) (CutX.take mO_f CutX.none) _ (gx_h mO_o) rfl ⟨rfl, rfl⟩ ⟨Nat.le_of_ble_eq_true rfl, Nat.le_of_ble_eq_true rfl⟩ rfl ⟨Nat.zero_le _, Nat.zero_le _⟩ rfl (Nat.le_of_ble_eq_true rfl) dX8_pushed_59 (fun H locs hw => ?_)
          exact fin_i C hw (Option.some.inj hf) (fun o => o.1) (fun o => (mO G am as_ ar ac an ath ah o.2.1 ++ (sO G as_ s_as_ ++ (tO G an t_an ++ (pO G an p_an ++ (pO G ath o.2.2.1 ++ (zO G an z_an ++ (zO G ath o.2.2.2 ++ [])))))))) rfl rfl dX8_pushed_62
        · replace hf := ifn hf hc
          exact hB_43  m_am u4.1 u4.2 hf _ _ hw _ (lv_sub hl [0] rfl)
    · replace hf := ifn hf hc
      exact hB_16  m_am p_ath z_ath hf _ _ hw _ (lv_sub hl [0] rfl)
set_option maxHeartbeats 4000000 in
set_option maxRecDepth 100000 in
theorem c_X8_op (l : Launch) (G : GG) (am : Nat → Nat) (as_ : Nat → Nat) (ar : Nat → Nat) (ac : Nat → Nat) (an : Nat → Nat) (ath : Nat → Nat) (ah : Nat → Nat) (sz : Nat) (m_am : Pic) (s_as_ : Pic) (x1 x2 : Int32) (out : Int32 × Pic) (hf : f_X8_op m_am s_as_ x1 x2 = some out) : Met l yX8_op (.code yX8_op cX8_op 3 (some .int) :: BT) ({ frames := 1, cells := 0, slots := 0, locals := 21 }) (va_Pc [.ref (am 99), .int x1, .int x2] (PreW G sz (mO G am as_ ar ac an ath ah m_am ++ (sO G as_ s_as_ ++ [])))) (Ans G out.1 (va_A (mO G am as_ ar ac an ath ah m_am ++ (sO G as_ s_as_ ++ [])) sz) (mO G am as_ ar ac an ath ah out.2 ++ (sO G as_ s_as_ ++ []))) 0 0 (va_A (mO G am as_ ar ac an ath ah m_am ++ (sO G as_ s_as_ ++ [])) sz) := by
  refine Met.into (by decide) (Nat.le_of_ble_eq_true rfl) ?_
  intro p e s m below meth c C hsz ls hl hw
  have hl : lv_has ls 3 [(0, .ref (am 99)), (1, .int x1), (2, .int x2)] := hl
  clear hsz
  generalize va_A (mO G am as_ ar ac an ath ah m_am ++ (sO G as_ s_as_ ++ [])) sz = A at hw ⊢
  unfold f_X8_op at hf
  refine r_aload0 C hl 0 rfl dX8_op_0 ?_
  refine r_iload0 C hl 1 rfl dX8_op_1 ?_
  obtain ⟨u1, e1, hf⟩ := bx hf
  refine r_callVi (ws' := (mO G am as_ ar ac an ath ah m_am ++ (sO G as_ s_as_ ++ []))) (As := [.int x1]) (rest := []) C hw hl.1 kX8_noOp ml_X8_312 (c_X8_noOp l G am as_ ar ac an ath ah _ m_am s_as_ x1 u1 e1) (CutX.take mO_f (CutX.take sO_f CutX.none)) _ (gx_h mO_o) rfl ⟨rfl, rfl⟩ ⟨Nat.le_of_ble_eq_true rfl, Nat.le_of_ble_eq_true rfl⟩ rfl ⟨Nat.zero_le _, Nat.zero_le _⟩ rfl (Nat.le_of_ble_eq_true rfl) dX8_op_2 (fun H locs hw => ?_)
  refine lv_if_eq (tgt := 14) C.1 C.2.1 dX8_op_5 (by decide) (fun hc => ?_) (fun hc => ?_)
  · replace hf := ifp hf hc
    refine r_iload0 C hl 2 rfl dX8_op_14 ?_
    rcases Decidable.em (x2 = 0) with hc | h0_
    · replace hf := ifp hf hc
      refine lv_tableIn (tgt := 40) C.1 C.2.1 dX8_op_15 (by rw [hc]; decide) (by rw [hc]; decide) (by rw [hc]; rfl) (by decide) ?_
      refine r_aload0 C hl 0 rfl dX8_op_40 ?_
      refine r_aload0 C hl 0 rfl dX8_op_41 ?_
      refine r_get C hw _ (gx_h mO_o) 6 fl_X8_16 rfl dX8_op_42 ?_
      refine r_get C hw _ (gx_t (gx_h sO_o)) 6 fl_X8_315 rfl dX8_op_45 ?_
      refine r_iload0 C hl 1 rfl dX8_op_48 ?_
      obtain ⟨v7_, e7, hf⟩ := bx hf
      refine r_iald C hw _ (gx_t (gx_h sO_g6)) e7 dX8_op_49 ?_
      obtain ⟨u8, e8, hf⟩ := bx hf
      refine r_callVi (ws' := (mO G am as_ ar ac an ath ah u8.2 ++ (sO G as_ s_as_ ++ []))) (As := [.int v7_]) (rest := []) C hw hl.1 kX8_answer ml_X8_99 (c_X8_answer l G am as_ ar ac an ath ah _ m_am v7_ u8 e8) (CutX.take mO_f CutX.none) _ (gx_h mO_o) rfl ⟨rfl, rfl⟩ ⟨Nat.le_of_ble_eq_true rfl, Nat.le_of_ble_eq_true rfl⟩ rfl ⟨Nat.zero_le _, Nat.zero_le _⟩ rfl (Nat.le_of_ble_eq_true rfl) dX8_op_50 (fun H locs hw => ?_)
      exact fin_i C hw (Option.some.inj hf) (fun o => o.1) (fun o => (mO G am as_ ar ac an ath ah o.2 ++ (sO G as_ s_as_ ++ []))) rfl rfl dX8_op_53
    replace hf := ifn hf h0_
    rcases Decidable.em (x2 = 1) with hc | h1_
    · replace hf := ifp hf hc
      refine lv_tableIn (tgt := 54) C.1 C.2.1 dX8_op_15 (by rw [hc]; decide) (by rw [hc]; decide) (by rw [hc]; rfl) (by decide) ?_
      refine r_aload0 C hl 0 rfl dX8_op_54 ?_
      refine r_aload0 C hl 0 rfl dX8_op_55 ?_
      refine r_get C hw _ (gx_h mO_o) 6 fl_X8_16 rfl dX8_op_56 ?_
      refine r_get C hw _ (gx_t (gx_h sO_o)) 7 fl_X8_318 rfl dX8_op_59 ?_
      refine r_iload0 C hl 1 rfl dX8_op_62 ?_
      obtain ⟨v5_, e5, hf⟩ := bx hf
      refine r_iald C hw _ (gx_t (gx_h sO_g7)) e5 dX8_op_63 ?_
      obtain ⟨u6, e6, hf⟩ := bx hf
      refine r_callVi (ws' := (mO G am as_ ar ac an ath ah u6.2 ++ (sO G as_ s_as_ ++ []))) (As := [.int v5_]) (rest := []) C hw hl.1 kX8_answer ml_X8_99 (c_X8_answer l G am as_ ar ac an ath ah _ m_am v5_ u6 e6) (CutX.take mO_f CutX.none) _ (gx_h mO_o) rfl ⟨rfl, rfl⟩ ⟨Nat.le_of_ble_eq_true rfl, Nat.le_of_ble_eq_true rfl⟩ rfl ⟨Nat.zero_le _, Nat.zero_le _⟩ rfl (Nat.le_of_ble_eq_true rfl) dX8_op_64 (fun H locs hw => ?_)
      exact fin_i C hw (Option.some.inj hf) (fun o => o.1) (fun o => (mO G am as_ ar ac an ath ah o.2 ++ (sO G as_ s_as_ ++ []))) rfl rfl dX8_op_67
    replace hf := ifn hf h1_
    rcases Decidable.em (x2 = 2) with hc | h2_
    · replace hf := ifp hf hc
      refine lv_tableIn (tgt := 68) C.1 C.2.1 dX8_op_15 (by rw [hc]; decide) (by rw [hc]; decide) (by rw [hc]; rfl) (by decide) ?_
      refine r_aload0 C hl 0 rfl dX8_op_68 ?_
      refine r_aload0 C hl 0 rfl dX8_op_69 ?_
      refine r_get C hw _ (gx_h mO_o) 6 fl_X8_16 rfl dX8_op_70 ?_
      refine r_get C hw _ (gx_t (gx_h sO_o)) 8 fl_X8_321 rfl dX8_op_73 ?_
      refine r_iload0 C hl 1 rfl dX8_op_76 ?_
      obtain ⟨v3_, e3, hf⟩ := bx hf
      refine r_iald C hw _ (gx_t (gx_h sO_g8)) e3 dX8_op_77 ?_
      obtain ⟨u4, e4, hf⟩ := bx hf
      refine r_callVi (ws' := (mO G am as_ ar ac an ath ah u4.2 ++ (sO G as_ s_as_ ++ []))) (As := [.int v3_]) (rest := []) C hw hl.1 kX8_answer ml_X8_99 (c_X8_answer l G am as_ ar ac an ath ah _ m_am v3_ u4 e4) (CutX.take mO_f CutX.none) _ (gx_h mO_o) rfl ⟨rfl, rfl⟩ ⟨Nat.le_of_ble_eq_true rfl, Nat.le_of_ble_eq_true rfl⟩ rfl ⟨Nat.zero_le _, Nat.zero_le _⟩ rfl (Nat.le_of_ble_eq_true rfl) dX8_op_78 (fun H locs hw => ?_)
      exact fin_i C hw (Option.some.inj hf) (fun o => o.1) (fun o => (mO G am as_ ar ac an ath ah o.2 ++ (sO G as_ s_as_ ++ []))) rfl rfl dX8_op_81
    replace hf := ifn hf h2_
    refine lv_tableOut (tgt := 82) C.1 C.2.1 dX8_op_15 (sw_out3 h0_ h1_ h2_) (by decide) ?_
    refine r_aload0 C hl 0 rfl dX8_op_82 ?_
    refine lv_iconst (v := 1) C.1 C.2.1 dX8_op_83 (by decide) ?_
    obtain ⟨u2, e2, hf⟩ := bx hf
    refine r_callVi (ws' := (mO G am as_ ar ac an ath ah u2.2 ++ (sO G as_ s_as_ ++ []))) (As := [.int 1]) (rest := []) C hw hl.1 kX8_refuse ml_X8_63 (c_X8_refuse l G am as_ ar ac an ath ah _ m_am 1 u2 e2) (CutX.take mO_f CutX.none) _ (gx_h mO_o) rfl ⟨rfl, rfl⟩ ⟨Nat.le_of_ble_eq_true rfl, Nat.le_of_ble_eq_true rfl⟩ rfl ⟨Nat.zero_le _, Nat.zero_le _⟩ rfl (Nat.le_of_ble_eq_true rfl) dX8_op_84 (fun H locs hw => ?_)
    exact fin_i C hw (Option.some.inj hf) (fun o => o.1) (fun o => (mO G am as_ ar ac an ath ah o.2 ++ (sO G as_ s_as_ ++ []))) rfl rfl dX8_op_87
  · replace hf := ifn hf hc
    refine r_aload0 C hl 0 rfl dX8_op_8 ?_
    refine lv_iconst (v := 1) C.1 C.2.1 dX8_op_9 (by decide) ?_
    obtain ⟨u9, e9, hf⟩ := bx hf
    refine r_callVi (ws' := (mO G am as_ ar ac an ath ah u9.2 ++ (sO G as_ s_as_ ++ []))) (As := [.int 1]) (rest := []) C hw hl.1 kX8_refuse ml_X8_63 (c_X8_refuse l G am as_ ar ac an ath ah _ m_am 1 u9 e9) (CutX.take mO_f CutX.none) _ (gx_h mO_o) rfl ⟨rfl, rfl⟩ ⟨Nat.le_of_ble_eq_true rfl, Nat.le_of_ble_eq_true rfl⟩ rfl ⟨Nat.zero_le _, Nat.zero_le _⟩ rfl (Nat.le_of_ble_eq_true rfl) dX8_op_10 (fun H locs hw => ?_)
    exact fin_i C hw (Option.some.inj hf) (fun o => o.1) (fun o => (mO G am as_ ar ac an ath ah o.2 ++ (sO G as_ s_as_ ++ []))) rfl rfl dX8_op_13
set_option maxHeartbeats 4000000 in
set_option maxRecDepth 100000 in
theorem c_X8_foretell (l : Launch) (G : GG) (am : Nat → Nat) (as_ : Nat → Nat) (ar : Nat → Nat) (ac : Nat → Nat) (an : Nat → Nat) (ath : Nat → Nat) (ah : Nat → Nat) (sz : Nat) (m_am : Pic) (s_as_ : Pic) (t_an : Pic) (p_ath : Pic) (z_ath : Pic) (x1 x2 : Int32) (out : Pic × Pic) (hf : f_X8_foretell m_am s_as_ t_an p_ath z_ath x1 x2 = some out) : Met l yX8_foretell (.code yX8_foretell cX8_foretell 4 none :: BT) ({ frames := 6, cells := 0, slots := 0, locals := 141 }) (va_Pc [.ref (am 99), .int x1, .int x2] (PreW G sz (mO G am as_ ar ac an ath ah m_am ++ (sO G as_ s_as_ ++ (tO G an t_an ++ (pO G ath p_ath ++ (zO G ath z_ath ++ []))))))) (Don G (va_A (mO G am as_ ar ac an ath ah m_am ++ (sO G as_ s_as_ ++ (tO G an t_an ++ (pO G ath p_ath ++ (zO G ath z_ath ++ []))))) sz) (mO G am as_ ar ac an ath ah m_am ++ (sO G as_ s_as_ ++ (tO G an t_an ++ (pO G ath out.1 ++ (zO G ath out.2 ++ [])))))) 0 0 (va_A (mO G am as_ ar ac an ath ah m_am ++ (sO G as_ s_as_ ++ (tO G an t_an ++ (pO G ath p_ath ++ (zO G ath z_ath ++ []))))) sz) := by
  refine Met.into (by decide) (Nat.le_of_ble_eq_true rfl) ?_
  intro p e s m below meth c C hsz ls hl hw
  have hl : lv_has ls 4 [(0, .ref (am 99)), (1, .int x1), (2, .int x2)] := hl
  clear hsz
  generalize va_A (mO G am as_ ar ac an ath ah m_am ++ (sO G as_ s_as_ ++ (tO G an t_an ++ (pO G ath p_ath ++ (zO G ath z_ath ++ []))))) sz = A at hw ⊢
  have hB_18 : ∀ (k18 : Pic → Pic → Int32 → Option (Pic × Pic)) (hk18 : ∀ (p_ath : Pic) (z_ath : Pic) (v3 : Int32), k18 p_ath z_ath v3 = some out → ∀ (H : Heap) (locs : List Loc), Wd G A s H locs (mO G am as_ ar ac an ath ah m_am ++ (sO G as_ s_as_ ++ (tO G an t_an ++ (pO G ath p_ath ++ (zO G ath z_ath ++ []))))) → ∀ ls : Array Slot, lv_has ls 4 [(0, .ref (am 99)), (3, .int v3)] → W p l e ({ frames := 6, cells := 0, slots := 0, locals := 141 }) s m [.ref (am 99), .int x1, .int x2].toArray below meth c H locs 0 0 (MQ below (Don G A (mO G am as_ ar ac an ath ah m_am ++ (sO G as_ s_as_ ++ (tO G an t_an ++ (pO G ath out.1 ++ (zO G ath out.2 ++ [])))))) [.ref (am 99), .int x1, .int x2].toArray s 0 0 A) (F0 m 18 ls [])), ∀ (p_ath : Pic) (z_ath : Pic) (v3 : Int32), b_X8_foretell_18 m_am s_as_ t_an x1 x2 k18 p_ath z_ath v3 = some out → ∀ (H : Heap) (locs : List Loc), Wd G A s H locs (mO G am as_ ar ac an ath ah m_am ++ (sO G as_ s_as_ ++ (tO G an t_an ++ (pO G ath p_ath ++ (zO G ath z_ath ++ []))))) → ∀ ls : Array Slot, lv_has ls 4 [(0, .ref (am 99)), (3, .int v3)] → W p l e ({ frames := 6, cells := 0, slots := 0, locals := 141 }) s m [.ref (am 99), .int x1, .int x2].toArray below meth c H locs 0 0 (MQ below (Don G A (mO G am as_ ar ac an ath ah m_am ++ (sO G as_ s_as_ ++ (tO G an t_an ++ (pO G ath out.1 ++ (zO G ath out.2 ++ [])))))) [.ref (am 99), .int x1, .int x2].toArray s 0 0 A) (F0 m 18 ls []) := by
    intro k18 hk18 p_ath z_ath v3 hf H locs hw ls hl
    unfold b_X8_foretell_18 at hf
    refine r_iload0 C hl 1 rfl dX8_foretell_18 ?_
    refine r_aload0 C hl 0 rfl dX8_foretell_19 ?_
    refine r_get C hw _ (gx_h mO_o) 6 fl_X8_16 rfl dX8_foretell_20 ?_
    refine r_get C hw _ (gx_t (gx_h sO_o)) 4 fl_X8_117 rfl dX8_foretell_23 ?_
    refine lv_icmp_ge (tgt := 44) C.1 C.2.1 dX8_foretell_26 (by decide) (fun hc => ?_) (fun hc => ?_)
    · replace hf := ifp hf hc
      exact fin_v C hw (Option.some.inj hf) (fun o => (mO G am as_ ar ac an ath ah m_am ++ (sO G as_ s_as_ ++ (tO G an t_an ++ (pO G ath o.1 ++ (zO G ath o.2 ++ [])))))) rfl dX8_foretell_44
    · replace hf := ifn hf hc
      refine r_aload0 C hl 0 rfl dX8_foretell_29 ?_
      refine r_aload0 C hl 0 rfl dX8_foretell_30 ?_
      refine r_get C hw _ (gx_h mO_o) 10 fl_X8_44 rfl dX8_foretell_31 ?_
      refine r_iload0 C hl 1 rfl dX8_foretell_34 ?_
      obtain ⟨u2, e2, hf⟩ := bx hf
      refine r_callVv (ws' := (mO G am as_ ar ac an ath ah m_am ++ (sO G as_ s_as_ ++ (tO G an t_an ++ (pO G ath u2.1 ++ (zO G ath u2.2 ++ [])))))) (As := [.ref (ath 99), .int v3]) (rest := []) C hw hl.1 kX8_perform ml_X8_351 (c_X8_perform l G am as_ ar ac an ath ah ath _ m_am s_as_ t_an p_ath z_ath v3 u2 e2) (CutX.take mO_f (CutX.take sO_f (CutX.take tO_f (CutX.take pO_f (CutX.take zO_f CutX.none))))) _ (gx_h mO_o) rfl ⟨rfl, rfl⟩ ⟨Nat.le_of_ble_eq_true rfl, Nat.le_of_ble_eq_true rfl⟩ rfl ⟨Nat.zero_le _, Nat.zero_le _⟩ rfl (Nat.le_of_ble_eq_true rfl) dX8_foretell_35 (fun H locs hw => ?_)
      refine r_iinc C hl 1 (v3 + 1) [(3, .int (v3 + 1)), (0, .ref (am 99))] rfl (iinc_e (by decide)) (by decide) rfl dX8_foretell_38 (fun ls hl => ?_)
      refine lv_goto (tgt := 18) C.1 C.2.1 dX8_foretell_41 (by decide) ?_
      exact hk18 u2.1 u2.2 (v3 + 1) hf _ _ hw _ (lv_sub hl [1, 0] rfl)
  have hL_18 : ∀ n : Nat, ∀ (p_ath : Pic) (z_ath : Pic) (v3 : Int32), L_X8_foretell_18 m_am s_as_ t_an x1 x2  n p_ath z_ath v3 = some out → ∀ (H : Heap) (locs : List Loc), Wd G A s H locs (mO G am as_ ar ac an ath ah m_am ++ (sO G as_ s_as_ ++ (tO G an t_an ++ (pO G ath p_ath ++ (zO G ath z_ath ++ []))))) → ∀ ls : Array Slot, lv_has ls 4 [(0, .ref (am 99)), (3, .int v3)] → W p l e ({ frames := 6, cells := 0, slots := 0, locals := 141 }) s m [.ref (am 99), .int x1, .int x2].toArray below meth c H locs 0 0 (MQ below (Don G A (mO G am as_ ar ac an ath ah m_am ++ (sO G as_ s_as_ ++ (tO G an t_an ++ (pO G ath out.1 ++ (zO G ath out.2 ++ [])))))) [.ref (am 99), .int x1, .int x2].toArray s 0 0 A) (F0 m 18 ls []) := by
    intro  n
    induction n with
    | zero => intro p_ath z_ath v3 hf; cases hf
    | succ n ih => exact hB_18 _ ih
  unfold f_X8_foretell at hf
  refine r_aload0 C hl 0 rfl dX8_foretell_0 ?_
  refine r_get C hw _ (gx_h mO_o) 10 fl_X8_44 rfl dX8_foretell_1 ?_
  refine r_iload0 C hl 1 rfl dX8_foretell_4 ?_
  refine r_iload0 C hl 2 rfl dX8_foretell_5 ?_
  refine r_aload0 C hl 0 rfl dX8_foretell_6 ?_
  refine r_get C hw _ (gx_h mO_o) 6 fl_X8_16 rfl dX8_foretell_7 ?_
  refine r_get C hw _ (gx_t (gx_h sO_o)) 2 fl_X8_378 rfl dX8_foretell_10 ?_
  obtain ⟨u1, e1, hf⟩ := bx hf
  refine r_callVv (ws' := (mO G am as_ ar ac an ath ah m_am ++ (sO G as_ s_as_ ++ (tO G an t_an ++ (pO G ath u1.1 ++ (zO G ath u1.2 ++ [])))))) (As := [.int x1, .int x2, .int (gS s_as_ 2)]) (rest := []) C hw hl.1 kX3_begin ml_X8_379 (c_X3_begin l G ath _ p_ath z_ath x1 x2 (gS s_as_ 2) u1 e1) (CutX.skip (CutX.skip (CutX.skip (CutX.take pO_f (CutX.take zO_f CutX.none))))) _ (gx_t (gx_t (gx_t (gx_h pO_o)))) rfl ⟨rfl, rfl⟩ ⟨Nat.le_of_ble_eq_true rfl, Nat.le_of_ble_eq_true rfl⟩ rfl ⟨Nat.zero_le _, Nat.zero_le _⟩ rfl (Nat.le_of_ble_eq_true rfl) dX8_foretell_13 (fun H locs hw => ?_)
  refine lv_iconst (v := 0) C.1 C.2.1 dX8_foretell_16 (by decide) ?_
  refine r_istore0 C hl [(3, .int 0), (0, .ref (am 99)), (1, .int x1), (2, .int x2)] (by decide) rfl dX8_foretell_17 (fun ls hl => ?_)
  exact hL_18  FU u1.1 u1.2 0 hf _ _ hw _ (lv_sub hl [1, 0] rfl)
set_option maxHeartbeats 4000000 in
set_option maxRecDepth 100000 in
theorem c_X8_foretold (l : Launch) (G : GG) (am : Nat → Nat) (as_ : Nat → Nat) (ar : Nat → Nat) (ac : Nat → Nat) (an : Nat → Nat) (ath : Nat → Nat) (ah : Nat → Nat) (sz : Nat) (m_am : Pic) (s_as_ : Pic) (t_an : Pic) (p_ath : Pic) (z_ath : Pic) (x1 x2 x3 : Int32) (out : Int32 × Pic × Pic × Pic) (hf : f_X8_foretold m_am s_as_ t_an p_ath z_ath x1 x2 x3 = some out) : Met l yX8_foretold (.code yX8_foretold cX8_foretold 4 (some .int) :: BT) ({ frames := 7, cells := 0, slots := 0, locals := 164 }) (va_Pc [.ref (am 99), .int x1, .int x2, .int x3] (PreW G sz (mO G am as_ ar ac an ath ah m_am ++ (sO G as_ s_as_ ++ (tO G an t_an ++ (pO G ath p_ath ++ (zO G ath z_ath ++ []))))))) (Ans G out.1 (va_A (mO G am as_ ar ac an ath ah m_am ++ (sO G as_ s_as_ ++ (tO G an t_an ++ (pO G ath p_ath ++ (zO G ath z_ath ++ []))))) sz) (mO G am as_ ar ac an ath ah out.2.1 ++ (sO G as_ s_as_ ++ (tO G an t_an ++ (pO G ath out.2.2.1 ++ (zO G ath out.2.2.2 ++ [])))))) 0 0 (va_A (mO G am as_ ar ac an ath ah m_am ++ (sO G as_ s_as_ ++ (tO G an t_an ++ (pO G ath p_ath ++ (zO G ath z_ath ++ []))))) sz) := by
  refine Met.into (by decide) (Nat.le_of_ble_eq_true rfl) ?_
  intro p e s m below meth c C hsz ls hl hw
  have hl : lv_has ls 4 [(0, .ref (am 99)), (1, .int x1), (2, .int x2), (3, .int x3)] := hl
  clear hsz
  generalize va_A (mO G am as_ ar ac an ath ah m_am ++ (sO G as_ s_as_ ++ (tO G an t_an ++ (pO G ath p_ath ++ (zO G ath z_ath ++ []))))) sz = A at hw ⊢
  have hB_16 : ∀ (m_am : Pic) (p_ath : Pic) (z_ath : Pic), b_X8_foretold_16 s_as_ t_an x1 x2 x3  m_am p_ath z_ath = some out → ∀ (H : Heap) (locs : List Loc), Wd G A s H locs (mO G am as_ ar ac an ath ah m_am ++ (sO G as_ s_as_ ++ (tO G an t_an ++ (pO G ath p_ath ++ (zO G ath z_ath ++ []))))) → ∀ ls : Array Slot, lv_has ls 4 [(0, .ref (am 99))] → W p l e ({ frames := 7, cells := 0, slots := 0, locals := 164 }) s m [.ref (am 99), .int x1, .int x2, .int x3].toArray below meth c H locs 0 0 (MQ below (Ans G out.1 A (mO G am as_ ar ac an ath ah out.2.1 ++ (sO G as_ s_as_ ++ (tO G an t_an ++ (pO G ath out.2.2.1 ++ (zO G ath out.2.2.2 ++ [])))))) [.ref (am 99), .int x1, .int x2, .int x3].toArray s 0 0 A) (F0 m 16 ls []) := by
    intro m_am p_ath z_ath hf H locs hw ls hl
    unfold b_X8_foretold_16 at hf
    refine r_aload0 C hl 0 rfl dX8_foretold_16 ?_
    refine lv_iconst (v := 1) C.1 C.2.1 dX8_foretold_17 (by decide) ?_
    obtain ⟨u1, e1, hf⟩ := bx hf
    refine r_callVi (ws' := (mO G am as_ ar ac an ath ah u1.2 ++ (sO G as_ s_as_ ++ (tO G an t_an ++ (pO G ath p_ath ++ (zO G ath z_ath ++ [])))))) (As := [.int 1]) (rest := []) C hw hl.1 kX8_refuse ml_X8_63 (c_X8_refuse l G am as_ ar ac an ath ah _ m_am 1 u1 e1) (CutX.take mO_f CutX.none) _ (gx_h mO_o) rfl ⟨rfl, rfl⟩ ⟨Nat.le_of_ble_eq_true rfl, Nat.le_of_ble_eq_true rfl⟩ rfl ⟨Nat.zero_le _, Nat.zero_le _⟩ rfl (Nat.le_of_ble_eq_true rfl) dX8_foretold_18 (fun H locs hw => ?_)
    exact fin_i C hw (Option.some.inj hf) (fun o => o.1) (fun o => (mO G am as_ ar ac an ath ah o.2.1 ++ (sO G as_ s_as_ ++ (tO G an t_an ++ (pO G ath o.2.2.1 ++ (zO G ath o.2.2.2 ++ [])))))) rfl rfl dX8_foretold_21
  have hB_39 : ∀ (m_am : Pic) (p_ath : Pic) (z_ath : Pic), b_X8_foretold_39 s_as_ t_an x1 x2 x3  m_am p_ath z_ath = some out → ∀ (H : Heap) (locs : List Loc), Wd G A s H locs (mO G am as_ ar ac an ath ah m_am ++ (sO G as_ s_as_ ++ (tO G an t_an ++ (pO G ath p_ath ++ (zO G ath z_ath ++ []))))) → ∀ ls : Array Slot, lv_has ls 4 [(0, .ref (am 99))] → W p l e ({ frames := 7, cells := 0, slots := 0, locals := 164 }) s m [.ref (am 99), .int x1, .int x2, .int x3].toArray below meth c H locs 0 0 (MQ below (Ans G out.1 A (mO G am as_ ar ac an ath ah out.2.1 ++ (sO G as_ s_as_ ++ (tO G an t_an ++ (pO G ath out.2.2.1 ++ (zO G ath out.2.2.2 ++ [])))))) [.ref (am 99), .int x1, .int x2, .int x3].toArray s 0 0 A) (F0 m 39 ls []) := by
    intro m_am p_ath z_ath hf H locs hw ls hl
    unfold b_X8_foretold_39 at hf
    refine r_aload0 C hl 0 rfl dX8_foretold_39 ?_
    refine lv_iconst (v := 2) C.1 C.2.1 dX8_foretold_40 (by decide) ?_
    obtain ⟨u3, e3, hf⟩ := bx hf
    refine r_callVi (ws' := (mO G am as_ ar ac an ath ah u3.2 ++ (sO G as_ s_as_ ++ (tO G an t_an ++ (pO G ath p_ath ++ (zO G ath z_ath ++ [])))))) (As := [.int 2]) (rest := []) C hw hl.1 kX8_refuse ml_X8_63 (c_X8_refuse l G am as_ ar ac an ath ah _ m_am 2 u3 e3) (CutX.take mO_f CutX.none) _ (gx_h mO_o) rfl ⟨rfl, rfl⟩ ⟨Nat.le_of_ble_eq_true rfl, Nat.le_of_ble_eq_true rfl⟩ rfl ⟨Nat.zero_le _, Nat.zero_le _⟩ rfl (Nat.le_of_ble_eq_true rfl) dX8_foretold_41 (fun H locs hw => ?_)
    exact fin_i C hw (Option.some.inj hf) (fun o => o.1) (fun o => (mO G am as_ ar ac an ath ah o.2.1 ++ (sO G as_ s_as_ ++ (tO G an t_an ++ (pO G ath o.2.2.1 ++ (zO G ath o.2.2.2 ++ [])))))) rfl rfl dX8_foretold_44
  unfold f_X8_foretold at hf
  refine r_aload0 C hl 0 rfl dX8_foretold_0 ?_
  refine r_get C hw _ (gx_h mO_o) 2 fl_X8_85 rfl dX8_foretold_1 ?_
  refine lv_if_eq (tgt := 16) C.1 C.2.1 dX8_foretold_4 (by decide) (fun hc => ?_) (fun hc => ?_)
  · replace hf := ifp hf hc
    exact hB_16  m_am p_ath z_ath hf _ _ hw _ (lv_sub hl [0] rfl)
  · replace hf := ifn hf hc
    refine r_iload0 C hl 3 rfl dX8_foretold_7 ?_
    refine lv_if_lt (tgt := 16) C.1 C.2.1 dX8_foretold_8 (by decide) (fun hc => ?_) (fun hc => ?_)
    · replace hf := ifp hf hc
      exact hB_16  m_am p_ath z_ath hf _ _ hw _ (lv_sub hl [0] rfl)
    · replace hf := ifn hf hc
      refine r_iload0 C hl 3 rfl dX8_foretold_11 ?_
      refine lv_iconst (v := 2) C.1 C.2.1 dX8_foretold_12 (by decide) ?_
      refine lv_icmp_le (tgt := 22) C.1 C.2.1 dX8_foretold_13 (by decide) (fun hc => ?_) (fun hc => ?_)
      · replace hf := ifp hf hc
        refine r_iload0 C hl 1 rfl dX8_foretold_22 ?_
        obtain ⟨u2, e2, hf⟩ := bx hf
        refine r_callSi (ws' := (mO G am as_ ar ac an ath ah m_am ++ (sO G as_ s_as_ ++ (tO G an t_an ++ (pO G ath p_ath ++ (zO G ath z_ath ++ [])))))) (As := [.int x1]) (rest := []) C hw hl.1 kX8_noLimit ml_X8_277 (c_X8_noLimit l G _ x1 u2 e2) CutX.none ⟨rfl, rfl⟩ ⟨Nat.le_of_ble_eq_true rfl, Nat.le_of_ble_eq_true rfl⟩ rfl ⟨Nat.zero_le _, Nat.zero_le _⟩ rfl (Nat.le_of_ble_eq_true rfl) dX8_foretold_23 (fun H locs hw => ?_)
        refine lv_if_ne (tgt := 39) C.1 C.2.1 dX8_foretold_26 (by decide) (fun hc => ?_) (fun hc => ?_)
        · replace hf := ifn hf hc
          exact hB_39  m_am p_ath z_ath hf _ _ hw _ (lv_sub hl [0] rfl)
        · replace hf := ifp hf hc
          refine r_iload0 C hl 2 rfl dX8_foretold_29 ?_
          refine lv_iconst (v := 1) C.1 C.2.1 dX8_foretold_30 (by decide) ?_
          refine lv_icmp_lt (tgt := 39) C.1 C.2.1 dX8_foretold_31 (by decide) (fun hc => ?_) (fun hc => ?_)
          · replace hf := ifp hf hc
            exact hB_39  m_am p_ath z_ath hf _ _ hw _ (lv_sub hl [0] rfl)
          · replace hf := ifn hf hc
            refine r_iload0 C hl 2 rfl dX8_foretold_34 ?_
            refine lv_iconst (v := 4) C.1 C.2.1 dX8_foretold_35 (by decide) ?_
            refine lv_icmp_le (tgt := 45) C.1 C.2.1 dX8_foretold_36 (by decide) (fun hc => ?_) (fun hc => ?_)
            · replace hf := ifp hf hc
              refine r_aload0 C hl 0 rfl dX8_foretold_45 ?_
              refine r_iload0 C hl 1 rfl dX8_foretold_46 ?_
              refine r_iload0 C hl 2 rfl dX8_foretold_47 ?_
              obtain ⟨u4, e4, hf⟩ := bx hf
              refine r_callVv (ws' := (mO G am as_ ar ac an ath ah m_am ++ (sO G as_ s_as_ ++ (tO G an t_an ++ (pO G ath u4.1 ++ (zO G ath u4.2 ++ [])))))) (As := [.int x1, .int x2]) (rest := []) C hw hl.1 kX8_foretell ml_X8_308 (c_X8_foretell l G am as_ ar ac an ath ah _ m_am s_as_ t_an p_ath z_ath x1 x2 u4 e4) (CutX.take mO_f (CutX.take sO_f (CutX.take tO_f (CutX.take pO_f (CutX.take zO_f CutX.none))))) _ (gx_h mO_o) rfl ⟨rfl, rfl⟩ ⟨Nat.le_of_ble_eq_true rfl, Nat.le_of_ble_eq_true rfl⟩ rfl ⟨Nat.zero_le _, Nat.zero_le _⟩ rfl (Nat.le_of_ble_eq_true rfl) dX8_foretold_48 (fun H locs hw => ?_)
              refine r_aload0 C hl 0 rfl dX8_foretold_51 ?_
              refine r_aload0 C hl 0 rfl dX8_foretold_52 ?_
              refine r_get C hw _ (gx_h mO_o) 10 fl_X8_44 rfl dX8_foretold_53 ?_
              refine r_get C hw _ (gx_t (gx_t (gx_t (gx_h pO_o)))) 12 fl_X8_270 rfl dX8_foretold_56 ?_
              refine r_iload0 C hl 3 rfl dX8_foretold_59 ?_
              obtain ⟨v5_, e5, hf⟩ := bx hf
              refine r_iald C hw _ (gx_t (gx_t (gx_t (gx_h pO_g12)))) e5 dX8_foretold_60 ?_
              obtain ⟨u6, e6, hf⟩ := bx hf
              refine r_callVi (ws' := (mO G am as_ ar ac an ath ah u6.2 ++ (sO G as_ s_as_ ++ (tO G an t_an ++ (pO G ath u4.1 ++ (zO G ath u4.2 ++ [])))))) (As := [.int v5_]) (rest := []) C hw hl.1 kX8_answer ml_X8_99 (c_X8_answer l G am as_ ar ac an ath ah _ m_am v5_ u6 e6) (CutX.take mO_f CutX.none) _ (gx_h mO_o) rfl ⟨rfl, rfl⟩ ⟨Nat.le_of_ble_eq_true rfl, Nat.le_of_ble_eq_true rfl⟩ rfl ⟨Nat.zero_le _, Nat.zero_le _⟩ rfl (Nat.le_of_ble_eq_true rfl) dX8_foretold_61 (fun H locs hw => ?_)
              exact fin_i C hw (Option.some.inj hf) (fun o => o.1) (fun o => (mO G am as_ ar ac an ath ah o.2.1 ++ (sO G as_ s_as_ ++ (tO G an t_an ++ (pO G ath o.2.2.1 ++ (zO G ath o.2.2.2 ++ [])))))) rfl rfl dX8_foretold_64
            · replace hf := ifn hf hc
              exact hB_39  m_am p_ath z_ath hf _ _ hw _ (lv_sub hl [0] rfl)
      · replace hf := ifn hf hc
        exact hB_16  m_am p_ath z_ath hf _ _ hw _ (lv_sub hl [0] rfl)
set_option maxHeartbeats 4000000 in
set_option maxRecDepth 100000 in
theorem c_X8_enough (l : Launch) (G : GG) (am : Nat → Nat) (as_ : Nat → Nat) (ar : Nat → Nat) (ac : Nat → Nat) (an : Nat → Nat) (ath : Nat → Nat) (ah : Nat → Nat) (sz : Nat) (m_am : Pic) (s_as_ : Pic) (t_an : Pic) (p_ath : Pic) (z_ath : Pic)  (out : Int32 × Pic × Pic × Pic) (hf : f_X8_enough m_am s_as_ t_an p_ath z_ath = some out) : Met l yX8_enough (.code yX8_enough cX8_enough 2 (some .int) :: BT) ({ frames := 7, cells := 0, slots := 0, locals := 164 }) (va_Pc [.ref (am 99)] (PreW G sz (mO G am as_ ar ac an ath ah m_am ++ (sO G as_ s_as_ ++ (tO G an t_an ++ (pO G ath p_ath ++ (zO G ath z_ath ++ []))))))) (Ans G out.1 (va_A (mO G am as_ ar ac an ath ah m_am ++ (sO G as_ s_as_ ++ (tO G an t_an ++ (pO G ath p_ath ++ (zO G ath z_ath ++ []))))) sz) (mO G am as_ ar ac an ath ah out.2.1 ++ (sO G as_ s_as_ ++ (tO G an t_an ++ (pO G ath out.2.2.1 ++ (zO G ath out.2.2.2 ++ [])))))) 0 0 (va_A (mO G am as_ ar ac an ath ah m_am ++ (sO G as_ s_as_ ++ (tO G an t_an ++ (pO G ath p_ath ++ (zO G ath z_ath ++ []))))) sz) := by
  refine Met.into (by decide) (Nat.le_of_ble_eq_true rfl) ?_
  intro p e s m below meth c C hsz ls hl hw
  have hl : lv_has ls 2 [(0, .ref (am 99))] := hl
  clear hsz
  generalize va_A (mO G am as_ ar ac an ath ah m_am ++ (sO G as_ s_as_ ++ (tO G an t_an ++ (pO G ath p_ath ++ (zO G ath z_ath ++ []))))) sz = A at hw ⊢
  have hB_15 : ∀ (k15 : Pic → Pic → Pic → Int32 → Option (Int32 × Pic × Pic × Pic)) (hk15 : ∀ (m_am : Pic) (p_ath : Pic) (z_ath : Pic) (v1 : Int32), k15 m_am p_ath z_ath v1 = some out → ∀ (H : Heap) (locs : List Loc), Wd G A s H locs (mO G am as_ ar ac an ath ah m_am ++ (sO G as_ s_as_ ++ (tO G an t_an ++ (pO G ath p_ath ++ (zO G ath z_ath ++ []))))) → ∀ ls : Array Slot, lv_has ls 2 [(0, .ref (am 99)), (1, .int v1)] → W p l e ({ frames := 7, cells := 0, slots := 0, locals := 164 }) s m [.ref (am 99)].toArray below meth c H locs 0 0 (MQ below (Ans G out.1 A (mO G am as_ ar ac an ath ah out.2.1 ++ (sO G as_ s_as_ ++ (tO G an t_an ++ (pO G ath out.2.2.1 ++ (zO G ath out.2.2.2 ++ [])))))) [.ref (am 99)].toArray s 0 0 A) (F0 m 15 ls [])), ∀ (m_am : Pic) (p_ath : Pic) (z_ath : Pic) (v1 : Int32), b_X8_enough_15 s_as_ t_an k15 m_am p_ath z_ath v1 = some out → ∀ (H : Heap) (locs : List Loc), Wd G A s H locs (mO G am as_ ar ac an ath ah m_am ++ (sO G as_ s_as_ ++ (tO G an t_an ++ (pO G ath p_ath ++ (zO G ath z_ath ++ []))))) → ∀ ls : Array Slot, lv_has ls 2 [(0, .ref (am 99)), (1, .int v1)] → W p l e ({ frames := 7, cells := 0, slots := 0, locals := 164 }) s m [.ref (am 99)].toArray below meth c H locs 0 0 (MQ below (Ans G out.1 A (mO G am as_ ar ac an ath ah out.2.1 ++ (sO G as_ s_as_ ++ (tO G an t_an ++ (pO G ath out.2.2.1 ++ (zO G ath out.2.2.2 ++ [])))))) [.ref (am 99)].toArray s 0 0 A) (F0 m 15 ls []) := by
    intro k15 hk15 m_am p_ath z_ath v1 hf H locs hw ls hl
    unfold b_X8_enough_15 at hf
    refine r_iload0 C hl 1 rfl dX8_enough_15 ?_
    refine lv_bipush (v := 24) C.1 C.2.1 dX8_enough_16 (by decide) ?_
    refine lv_icmp_gt (tgt := 57) C.1 C.2.1 dX8_enough_18 (by decide) (fun hc => ?_) (fun hc => ?_)
    · replace hf := ifp hf hc
      refine r_aload0 C hl 0 rfl dX8_enough_57 ?_
      refine lv_bipush (v := (-2)) C.1 C.2.1 dX8_enough_58 (by decide) ?_
      obtain ⟨u1, e1, hf⟩ := bx hf
      refine r_callVi (ws' := (mO G am as_ ar ac an ath ah u1.2 ++ (sO G as_ s_as_ ++ (tO G an t_an ++ (pO G ath p_ath ++ (zO G ath z_ath ++ [])))))) (As := [.int (-2)]) (rest := []) C hw hl.1 kX8_answer ml_X8_99 (c_X8_answer l G am as_ ar ac an ath ah _ m_am (-2) u1 e1) (CutX.take mO_f CutX.none) _ (gx_h mO_o) rfl ⟨rfl, rfl⟩ ⟨Nat.le_of_ble_eq_true rfl, Nat.le_of_ble_eq_true rfl⟩ rfl ⟨Nat.zero_le _, Nat.zero_le _⟩ rfl (Nat.le_of_ble_eq_true rfl) dX8_enough_60 (fun H locs hw => ?_)
      exact fin_i C hw (Option.some.inj hf) (fun o => o.1) (fun o => (mO G am as_ ar ac an ath ah o.2.1 ++ (sO G as_ s_as_ ++ (tO G an t_an ++ (pO G ath o.2.2.1 ++ (zO G ath o.2.2.2 ++ [])))))) rfl rfl dX8_enough_63
    · replace hf := ifn hf hc
      refine r_aload0 C hl 0 rfl dX8_enough_21 ?_
      refine r_iload0 C hl 1 rfl dX8_enough_22 ?_
      refine r_aload0 C hl 0 rfl dX8_enough_23 ?_
      refine r_get C hw _ (gx_h mO_o) 6 fl_X8_16 rfl dX8_enough_24 ?_
      refine r_get C hw _ (gx_t (gx_h sO_o)) 1 fl_X8_311 rfl dX8_enough_27 ?_
      obtain ⟨u2, e2, hf⟩ := bx hf
      refine r_callVv (ws' := (mO G am as_ ar ac an ath ah m_am ++ (sO G as_ s_as_ ++ (tO G an t_an ++ (pO G ath u2.1 ++ (zO G ath u2.2 ++ [])))))) (As := [.int v1, .int (gS s_as_ 1)]) (rest := []) C hw hl.1 kX8_foretell ml_X8_308 (c_X8_foretell l G am as_ ar ac an ath ah _ m_am s_as_ t_an p_ath z_ath v1 (gS s_as_ 1) u2 e2) (CutX.take mO_f (CutX.take sO_f (CutX.take tO_f (CutX.take pO_f (CutX.take zO_f CutX.none))))) _ (gx_h mO_o) rfl ⟨rfl, rfl⟩ ⟨Nat.le_of_ble_eq_true rfl, Nat.le_of_ble_eq_true rfl⟩ rfl ⟨Nat.zero_le _, Nat.zero_le _⟩ rfl (Nat.le_of_ble_eq_true rfl) dX8_enough_30 (fun H locs hw => ?_)
      refine r_aload0 C hl 0 rfl dX8_enough_33 ?_
      refine r_get C hw _ (gx_h mO_o) 10 fl_X8_44 rfl dX8_enough_34 ?_
      refine r_get C hw _ (gx_t (gx_t (gx_t (gx_h pO_o)))) 12 fl_X8_270 rfl dX8_enough_37 ?_
      refine lv_iconst (v := 1) C.1 C.2.1 dX8_enough_40 (by decide) ?_
      obtain ⟨v3_, e3, hf⟩ := bx hf
      refine r_iald C hw _ (gx_t (gx_t (gx_t (gx_h pO_g12)))) e3 dX8_enough_41 ?_
      refine lv_if_ne (tgt := 51) C.1 C.2.1 dX8_enough_42 (by decide) (fun hc => ?_) (fun hc => ?_)
      · replace hf := ifn hf hc
        refine r_iinc C hl 1 (v1 + 1) [(1, .int (v1 + 1)), (0, .ref (am 99))] rfl (iinc_e (by decide)) (by decide) rfl dX8_enough_51 (fun ls hl => ?_)
        refine lv_goto (tgt := 15) C.1 C.2.1 dX8_enough_54 (by decide) ?_
        exact hk15 m_am u2.1 u2.2 (v1 + 1) hf _ _ hw _ (lv_sub hl [1, 0] rfl)
      · replace hf := ifp hf hc
        refine r_aload0 C hl 0 rfl dX8_enough_45 ?_
        refine r_iload0 C hl 1 rfl dX8_enough_46 ?_
        obtain ⟨u4, e4, hf⟩ := bx hf
        refine r_callVi (ws' := (mO G am as_ ar ac an ath ah u4.2 ++ (sO G as_ s_as_ ++ (tO G an t_an ++ (pO G ath u2.1 ++ (zO G ath u2.2 ++ [])))))) (As := [.int v1]) (rest := []) C hw hl.1 kX8_answer ml_X8_99 (c_X8_answer l G am as_ ar ac an ath ah _ m_am v1 u4 e4) (CutX.take mO_f CutX.none) _ (gx_h mO_o) rfl ⟨rfl, rfl⟩ ⟨Nat.le_of_ble_eq_true rfl, Nat.le_of_ble_eq_true rfl⟩ rfl ⟨Nat.zero_le _, Nat.zero_le _⟩ rfl (Nat.le_of_ble_eq_true rfl) dX8_enough_47 (fun H locs hw => ?_)
        exact fin_i C hw (Option.some.inj hf) (fun o => o.1) (fun o => (mO G am as_ ar ac an ath ah o.2.1 ++ (sO G as_ s_as_ ++ (tO G an t_an ++ (pO G ath o.2.2.1 ++ (zO G ath o.2.2.2 ++ [])))))) rfl rfl dX8_enough_50
  have hL_15 : ∀ n : Nat, ∀ (m_am : Pic) (p_ath : Pic) (z_ath : Pic) (v1 : Int32), L_X8_enough_15 s_as_ t_an  n m_am p_ath z_ath v1 = some out → ∀ (H : Heap) (locs : List Loc), Wd G A s H locs (mO G am as_ ar ac an ath ah m_am ++ (sO G as_ s_as_ ++ (tO G an t_an ++ (pO G ath p_ath ++ (zO G ath z_ath ++ []))))) → ∀ ls : Array Slot, lv_has ls 2 [(0, .ref (am 99)), (1, .int v1)] → W p l e ({ frames := 7, cells := 0, slots := 0, locals := 164 }) s m [.ref (am 99)].toArray below meth c H locs 0 0 (MQ below (Ans G out.1 A (mO G am as_ ar ac an ath ah out.2.1 ++ (sO G as_ s_as_ ++ (tO G an t_an ++ (pO G ath out.2.2.1 ++ (zO G ath out.2.2.2 ++ [])))))) [.ref (am 99)].toArray s 0 0 A) (F0 m 15 ls []) := by
    intro  n
    induction n with
    | zero => intro m_am p_ath z_ath v1 hf; cases hf
    | succ n ih => exact hB_15 _ ih
  unfold f_X8_enough at hf
  refine r_aload0 C hl 0 rfl dX8_enough_0 ?_
  refine r_get C hw _ (gx_h mO_o) 2 fl_X8_85 rfl dX8_enough_1 ?_
  refine lv_if_ne (tgt := 13) C.1 C.2.1 dX8_enough_4 (by decide) (fun hc => ?_) (fun hc => ?_)
  · replace hf := ifn hf hc
    refine lv_iconst (v := 1) C.1 C.2.1 dX8_enough_13 (by decide) ?_
    refine r_istore0 C hl [(1, .int 1), (0, .ref (am 99))] (by decide) rfl dX8_enough_14 (fun ls hl => ?_)
    exact hL_15  FU m_am p_ath z_ath 1 hf _ _ hw _ (lv_sub hl [1, 0] rfl)
  · replace hf := ifp hf hc
    refine r_aload0 C hl 0 rfl dX8_enough_7 ?_
    refine lv_iconst (v := 1) C.1 C.2.1 dX8_enough_8 (by decide) ?_
    obtain ⟨u5, e5, hf⟩ := bx hf
    refine r_callVi (ws' := (mO G am as_ ar ac an ath ah u5.2 ++ (sO G as_ s_as_ ++ (tO G an t_an ++ (pO G ath p_ath ++ (zO G ath z_ath ++ [])))))) (As := [.int 1]) (rest := []) C hw hl.1 kX8_refuse ml_X8_63 (c_X8_refuse l G am as_ ar ac an ath ah _ m_am 1 u5 e5) (CutX.take mO_f CutX.none) _ (gx_h mO_o) rfl ⟨rfl, rfl⟩ ⟨Nat.le_of_ble_eq_true rfl, Nat.le_of_ble_eq_true rfl⟩ rfl ⟨Nat.zero_le _, Nat.zero_le _⟩ rfl (Nat.le_of_ble_eq_true rfl) dX8_enough_9 (fun H locs hw => ?_)
    exact fin_i C hw (Option.some.inj hf) (fun o => o.1) (fun o => (mO G am as_ ar ac an ath ah o.2.1 ++ (sO G as_ s_as_ ++ (tO G an t_an ++ (pO G ath o.2.2.1 ++ (zO G ath o.2.2.2 ++ [])))))) rfl rfl dX8_enough_12
