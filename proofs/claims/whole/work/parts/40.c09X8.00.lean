set_option maxHeartbeats 4000000 in
set_option maxRecDepth 100000 in
theorem c_X8_fault (l : Launch) (G : GG) (am : Nat → Nat) (as_ : Nat → Nat) (ar : Nat → Nat) (ac : Nat → Nat) (an : Nat → Nat) (ath : Nat → Nat) (ah : Nat → Nat) (sz : Nat) (m_am : Pic)  (out : Int32) (hf : f_X8_fault m_am = some out) : Met l yX8_fault (.code yX8_fault cX8_fault 1 (some .int) :: BT) ({ frames := 0, cells := 0, slots := 0, locals := 0 }) (va_Pc [.ref (am 99)] (PreW G sz (mO G am as_ ar ac an ath ah m_am ++ []))) (Ans G out (va_A (mO G am as_ ar ac an ath ah m_am ++ []) sz) (mO G am as_ ar ac an ath ah m_am ++ [])) 0 0 (va_A (mO G am as_ ar ac an ath ah m_am ++ []) sz) := by
  refine Met.into (by decide) (Nat.le_of_ble_eq_true rfl) ?_
  intro p e s m below meth c C hsz ls hl hw
  have hl : lv_has ls 1 [(0, .ref (am 99))] := hl
  clear hsz
  generalize va_A (mO G am as_ ar ac an ath ah m_am ++ []) sz = A at hw ⊢
  unfold f_X8_fault at hf
  refine r_aload0 C hl 0 rfl dX8_fault_0 ?_
  refine r_get C hw _ (gx_h mO_o) 4 fl_X8_71 rfl dX8_fault_1 ?_
  exact fin_i C hw (Option.some.inj hf) (fun o => o) (fun o => (mO G am as_ ar ac an ath ah m_am ++ [])) rfl rfl dX8_fault_4
set_option maxHeartbeats 4000000 in
set_option maxRecDepth 100000 in
theorem c_X8_where (l : Launch) (G : GG) (am : Nat → Nat) (as_ : Nat → Nat) (ar : Nat → Nat) (ac : Nat → Nat) (an : Nat → Nat) (ath : Nat → Nat) (ah : Nat → Nat) (sz : Nat) (m_am : Pic)  (out : Int32) (hf : f_X8_where m_am = some out) : Met l yX8_where (.code yX8_where cX8_where 1 (some .int) :: BT) ({ frames := 0, cells := 0, slots := 0, locals := 0 }) (va_Pc [.ref (am 99)] (PreW G sz (mO G am as_ ar ac an ath ah m_am ++ []))) (Ans G out (va_A (mO G am as_ ar ac an ath ah m_am ++ []) sz) (mO G am as_ ar ac an ath ah m_am ++ [])) 0 0 (va_A (mO G am as_ ar ac an ath ah m_am ++ []) sz) := by
  refine Met.into (by decide) (Nat.le_of_ble_eq_true rfl) ?_
  intro p e s m below meth c C hsz ls hl hw
  have hl : lv_has ls 1 [(0, .ref (am 99))] := hl
  clear hsz
  generalize va_A (mO G am as_ ar ac an ath ah m_am ++ []) sz = A at hw ⊢
  unfold f_X8_where at hf
  refine r_aload0 C hl 0 rfl dX8_where_0 ?_
  refine r_get C hw _ (gx_h mO_o) 3 fl_X8_102 rfl dX8_where_1 ?_
  refine lv_iconst (v := 4) C.1 C.2.1 dX8_where_4 (by decide) ?_
  refine lv_icmp_ne (tgt := 15) C.1 C.2.1 dX8_where_5 (by decide) (fun hc => ?_) (fun hc => ?_)
  · replace hf := ifn hf hc
    refine lv_iconst (v := (-1)) C.1 C.2.1 dX8_where_15 (by decide) ?_
    exact fin_i C hw (Option.some.inj hf) (fun o => o) (fun o => (mO G am as_ ar ac an ath ah m_am ++ [])) rfl rfl dX8_where_16
  · replace hf := ifp hf hc
    refine r_aload0 C hl 0 rfl dX8_where_8 ?_
    refine r_get C hw _ (gx_h mO_o) 5 fl_X8_78 rfl dX8_where_9 ?_
    refine lv_goto (tgt := 16) C.1 C.2.1 dX8_where_12 (by decide) ?_
    exact fin_i C hw (Option.some.inj hf) (fun o => o) (fun o => (mO G am as_ ar ac an ath ah m_am ++ [])) rfl rfl dX8_where_16
set_option maxHeartbeats 4000000 in
set_option maxRecDepth 100000 in
theorem c_X8_size (l : Launch) (G : GG) (am : Nat → Nat) (as_ : Nat → Nat) (ar : Nat → Nat) (ac : Nat → Nat) (an : Nat → Nat) (ath : Nat → Nat) (ah : Nat → Nat) (rg : Nat → Option Nat) (sz : Nat) (m_am : Pic) (h_ah : Pic) (x1 : Int32) (out : Int32) (hf : f_X8_size m_am h_ah x1 = some out) : Met l yX8_size (.code yX8_size cX8_size 2 (some .int) :: BT) ({ frames := 0, cells := 0, slots := 0, locals := 0 }) (va_Pc [.ref (am 99), .int x1] (PreW G sz (mO G am as_ ar ac an ath ah m_am ++ (hO G ah rg h_ah ++ [])))) (Ans G out (va_A (mO G am as_ ar ac an ath ah m_am ++ (hO G ah rg h_ah ++ [])) sz) (mO G am as_ ar ac an ath ah m_am ++ (hO G ah rg h_ah ++ []))) 0 0 (va_A (mO G am as_ ar ac an ath ah m_am ++ (hO G ah rg h_ah ++ [])) sz) := by
  refine Met.into (by decide) (Nat.le_of_ble_eq_true rfl) ?_
  intro p e s m below meth c C hsz ls hl hw
  have hl : lv_has ls 2 [(0, .ref (am 99)), (1, .int x1)] := hl
  clear hsz
  generalize va_A (mO G am as_ ar ac an ath ah m_am ++ (hO G ah rg h_ah ++ [])) sz = A at hw ⊢
  unfold f_X8_size at hf
  refine r_iload0 C hl 1 rfl dX8_size_0 ?_
  rcases Decidable.em (x1 = 0) with hc | h0_
  · replace hf := ifp hf hc
    refine lv_lookup (off := 27) (tgt := 28) C.1 C.2.1 dX8_size_1 (by decide) (by rw [hc] <;> rfl) (by decide) ?_
    refine r_aload0 C hl 0 rfl dX8_size_28 ?_
    refine r_get C hw _ (gx_h mO_o) 1 fl_X8_55 rfl dX8_size_29 ?_
    exact fin_i C hw (Option.some.inj hf) (fun o => o) (fun o => (mO G am as_ ar ac an ath ah m_am ++ (hO G ah rg h_ah ++ []))) rfl rfl dX8_size_32
  replace hf := ifn hf h0_
  rcases Decidable.em (x1 = 1) with hc | h1_
  · replace hf := ifp hf hc
    refine lv_lookup (off := 32) (tgt := 33) C.1 C.2.1 dX8_size_1 (by decide) (by rw [hc] <;> rfl) (by decide) ?_
    refine r_aload0 C hl 0 rfl dX8_size_33 ?_
    refine r_get C hw _ (gx_h mO_o) 11 fl_X8_51 rfl dX8_size_34 ?_
    refine r_get C hw _ (gx_t (gx_h hO_o)) 2 fl_X8_366 rfl dX8_size_37 ?_
    exact fin_i C hw (Option.some.inj hf) (fun o => o) (fun o => (mO G am as_ ar ac an ath ah m_am ++ (hO G ah rg h_ah ++ []))) rfl rfl dX8_size_40
  replace hf := ifn hf h1_
  refine lv_lookup (off := 40) (tgt := 41) C.1 C.2.1 dX8_size_1 (by decide) ((lv_osw h0_ (by decide)).trans ((lv_osw h1_ (by decide)).trans (rfl))) (by decide) ?_
  refine lv_iconst (v := (-1)) C.1 C.2.1 dX8_size_41 (by decide) ?_
  exact fin_i C hw (Option.some.inj hf) (fun o => o) (fun o => (mO G am as_ ar ac an ath ah m_am ++ (hO G ah rg h_ah ++ []))) rfl rfl dX8_size_42
set_option maxHeartbeats 4000000 in
set_option maxRecDepth 100000 in
theorem c_X8_trouble (l : Launch) (G : GG) (am : Nat → Nat) (as_ : Nat → Nat) (ar : Nat → Nat) (ac : Nat → Nat) (an : Nat → Nat) (ath : Nat → Nat) (ah : Nat → Nat) (sz : Nat) (m_am : Pic)  (out : Int32) (hf : f_X8_trouble m_am = some out) : Met l yX8_trouble (.code yX8_trouble cX8_trouble 1 (some .int) :: BT) ({ frames := 0, cells := 0, slots := 0, locals := 0 }) (va_Pc [.ref (am 99)] (PreW G sz (mO G am as_ ar ac an ath ah m_am ++ []))) (Ans G out (va_A (mO G am as_ ar ac an ath ah m_am ++ []) sz) (mO G am as_ ar ac an ath ah m_am ++ [])) 0 0 (va_A (mO G am as_ ar ac an ath ah m_am ++ []) sz) := by
  refine Met.into (by decide) (Nat.le_of_ble_eq_true rfl) ?_
  intro p e s m below meth c C hsz ls hl hw
  have hl : lv_has ls 1 [(0, .ref (am 99))] := hl
  clear hsz
  generalize va_A (mO G am as_ ar ac an ath ah m_am ++ []) sz = A at hw ⊢
  unfold f_X8_trouble at hf
  refine r_aload0 C hl 0 rfl dX8_trouble_0 ?_
  refine r_get C hw _ (gx_h mO_o) 3 fl_X8_102 rfl dX8_trouble_1 ?_
  exact fin_i C hw (Option.some.inj hf) (fun o => o) (fun o => (mO G am as_ ar ac an ath ah m_am ++ [])) rfl rfl dX8_trouble_4
set_option maxHeartbeats 4000000 in
set_option maxRecDepth 100000 in
theorem c_X8_answer (l : Launch) (G : GG) (am : Nat → Nat) (as_ : Nat → Nat) (ar : Nat → Nat) (ac : Nat → Nat) (an : Nat → Nat) (ath : Nat → Nat) (ah : Nat → Nat) (sz : Nat) (m_am : Pic) (x1 : Int32) (out : Int32 × Pic) (hf : f_X8_answer m_am x1 = some out) : Met l yX8_answer (.code yX8_answer cX8_answer 2 (some .int) :: BT) ({ frames := 0, cells := 0, slots := 0, locals := 0 }) (va_Pc [.ref (am 99), .int x1] (PreW G sz (mO G am as_ ar ac an ath ah m_am ++ []))) (Ans G out.1 (va_A (mO G am as_ ar ac an ath ah m_am ++ []) sz) (mO G am as_ ar ac an ath ah out.2 ++ [])) 0 0 (va_A (mO G am as_ ar ac an ath ah m_am ++ []) sz) := by
  refine Met.into (by decide) (Nat.le_of_ble_eq_true rfl) ?_
  intro p e s m below meth c C hsz ls hl hw
  have hl : lv_has ls 2 [(0, .ref (am 99)), (1, .int x1)] := hl
  clear hsz
  generalize va_A (mO G am as_ ar ac an ath ah m_am ++ []) sz = A at hw ⊢
  unfold f_X8_answer at hf
  refine r_aload0 C hl 0 rfl dX8_answer_0 ?_
  refine lv_iconst (v := 0) C.1 C.2.1 dX8_answer_1 (by decide) ?_
  obtain ⟨m_am1, e1, hf⟩ := bx hf
  refine r_put C hw _ (gx_h mO_o) 3 fp_X8_102 rfl rfl (Nat.le_of_ble_eq_true rfl) (mO G am as_ ar ac an ath ah m_am1 ++ []) (sx_h mO_o (mO_p3 e1)) dX8_answer_2 (fun H locs hw => ?_)
  refine r_iload0 C hl 1 rfl dX8_answer_5 ?_
  exact fin_i C hw (Option.some.inj hf) (fun o => o.1) (fun o => (mO G am as_ ar ac an ath ah o.2 ++ [])) rfl rfl dX8_answer_6
set_option maxHeartbeats 4000000 in
set_option maxRecDepth 100000 in
theorem c_X8_refuse (l : Launch) (G : GG) (am : Nat → Nat) (as_ : Nat → Nat) (ar : Nat → Nat) (ac : Nat → Nat) (an : Nat → Nat) (ath : Nat → Nat) (ah : Nat → Nat) (sz : Nat) (m_am : Pic) (x1 : Int32) (out : Int32 × Pic) (hf : f_X8_refuse m_am x1 = some out) : Met l yX8_refuse (.code yX8_refuse cX8_refuse 2 (some .int) :: BT) ({ frames := 0, cells := 0, slots := 0, locals := 0 }) (va_Pc [.ref (am 99), .int x1] (PreW G sz (mO G am as_ ar ac an ath ah m_am ++ []))) (Ans G out.1 (va_A (mO G am as_ ar ac an ath ah m_am ++ []) sz) (mO G am as_ ar ac an ath ah out.2 ++ [])) 0 0 (va_A (mO G am as_ ar ac an ath ah m_am ++ []) sz) := by
  refine Met.into (by decide) (Nat.le_of_ble_eq_true rfl) ?_
  intro p e s m below meth c C hsz ls hl hw
  have hl : lv_has ls 2 [(0, .ref (am 99)), (1, .int x1)] := hl
  clear hsz
  generalize va_A (mO G am as_ ar ac an ath ah m_am ++ []) sz = A at hw ⊢
  unfold f_X8_refuse at hf
  refine r_aload0 C hl 0 rfl dX8_refuse_0 ?_
  refine r_iload0 C hl 1 rfl dX8_refuse_1 ?_
  obtain ⟨m_am1, e1, hf⟩ := bx hf
  refine r_put C hw _ (gx_h mO_o) 3 fp_X8_102 rfl rfl (Nat.le_of_ble_eq_true rfl) (mO G am as_ ar ac an ath ah m_am1 ++ []) (sx_h mO_o (mO_p3 e1)) dX8_refuse_2 (fun H locs hw => ?_)
  refine lv_iconst (v := (-1)) C.1 C.2.1 dX8_refuse_5 (by decide) ?_
  exact fin_i C hw (Option.some.inj hf) (fun o => o.1) (fun o => (mO G am as_ ar ac an ath ah o.2 ++ [])) rfl rfl dX8_refuse_6
set_option maxHeartbeats 4000000 in
set_option maxRecDepth 100000 in
theorem c_X8_agree (l : Launch) (G : GG) (am : Nat → Nat) (as_ : Nat → Nat) (ar : Nat → Nat) (ac : Nat → Nat) (an : Nat → Nat) (ath : Nat → Nat) (ah : Nat → Nat) (sz : Nat) (m_am : Pic)  (out : Int32 × Pic) (hf : f_X8_agree m_am = some out) : Met l yX8_agree (.code yX8_agree cX8_agree 1 (some .boolean) :: BT) ({ frames := 0, cells := 0, slots := 0, locals := 0 }) (va_Pc [.ref (am 99)] (PreW G sz (mO G am as_ ar ac an ath ah m_am ++ []))) (Ans G out.1 (va_A (mO G am as_ ar ac an ath ah m_am ++ []) sz) (mO G am as_ ar ac an ath ah out.2 ++ [])) 0 0 (va_A (mO G am as_ ar ac an ath ah m_am ++ []) sz) := by
  refine Met.into (by decide) (Nat.le_of_ble_eq_true rfl) ?_
  intro p e s m below meth c C hsz ls hl hw
  have hl : lv_has ls 1 [(0, .ref (am 99))] := hl
  clear hsz
  generalize va_A (mO G am as_ ar ac an ath ah m_am ++ []) sz = A at hw ⊢
  unfold f_X8_agree at hf
  refine r_aload0 C hl 0 rfl dX8_agree_0 ?_
  refine lv_iconst (v := 0) C.1 C.2.1 dX8_agree_1 (by decide) ?_
  obtain ⟨m_am1, e1, hf⟩ := bx hf
  refine r_put C hw _ (gx_h mO_o) 3 fp_X8_102 rfl rfl (Nat.le_of_ble_eq_true rfl) (mO G am as_ ar ac an ath ah m_am1 ++ []) (sx_h mO_o (mO_p3 e1)) dX8_agree_2 (fun H locs hw => ?_)
  refine lv_iconst (v := 1) C.1 C.2.1 dX8_agree_5 (by decide) ?_
  exact fin_z C hw (by decide) (Option.some.inj hf) (fun o => o.1) (fun o => (mO G am as_ ar ac an ath ah o.2 ++ [])) rfl rfl dX8_agree_6
set_option maxHeartbeats 4000000 in
set_option maxRecDepth 100000 in
theorem c_X8_refuseFlatly (l : Launch) (G : GG) (am : Nat → Nat) (as_ : Nat → Nat) (ar : Nat → Nat) (ac : Nat → Nat) (an : Nat → Nat) (ath : Nat → Nat) (ah : Nat → Nat) (sz : Nat) (m_am : Pic) (x1 : Int32) (out : Int32 × Pic) (hf : f_X8_refuseFlatly m_am x1 = some out) : Met l yX8_refuseFlatly (.code yX8_refuseFlatly cX8_refuseFlatly 2 (some .boolean) :: BT) ({ frames := 0, cells := 0, slots := 0, locals := 0 }) (va_Pc [.ref (am 99), .int x1] (PreW G sz (mO G am as_ ar ac an ath ah m_am ++ []))) (Ans G out.1 (va_A (mO G am as_ ar ac an ath ah m_am ++ []) sz) (mO G am as_ ar ac an ath ah out.2 ++ [])) 0 0 (va_A (mO G am as_ ar ac an ath ah m_am ++ []) sz) := by
  refine Met.into (by decide) (Nat.le_of_ble_eq_true rfl) ?_
  intro p e s m below meth c C hsz ls hl hw
  have hl : lv_has ls 2 [(0, .ref (am 99)), (1, .int x1)] := hl
  clear hsz
  generalize va_A (mO G am as_ ar ac an ath ah m_am ++ []) sz = A at hw ⊢
  unfold f_X8_refuseFlatly at hf
  refine r_aload0 C hl 0 rfl dX8_refuseFlatly_0 ?_
  refine r_iload0 C hl 1 rfl dX8_refuseFlatly_1 ?_
  obtain ⟨m_am1, e1, hf⟩ := bx hf
  refine r_put C hw _ (gx_h mO_o) 3 fp_X8_102 rfl rfl (Nat.le_of_ble_eq_true rfl) (mO G am as_ ar ac an ath ah m_am1 ++ []) (sx_h mO_o (mO_p3 e1)) dX8_refuseFlatly_2 (fun H locs hw => ?_)
  refine lv_iconst (v := 0) C.1 C.2.1 dX8_refuseFlatly_5 (by decide) ?_
  exact fin_z C hw (by decide) (Option.some.inj hf) (fun o => o.1) (fun o => (mO G am as_ ar ac an ath ah o.2 ++ [])) rfl rfl dX8_refuseFlatly_6
set_option maxHeartbeats 4000000 in
set_option maxRecDepth 100000 in
theorem c_X8_noData (l : Launch) (G : GG) (am : Nat → Nat) (as_ : Nat → Nat) (ar : Nat → Nat) (ac : Nat → Nat) (an : Nat → Nat) (ath : Nat → Nat) (ah : Nat → Nat) (sz : Nat) (m_am : Pic) (s_as_ : Pic) (x1 : Int32) (out : Int32) (hf : f_X8_noData m_am s_as_ x1 = some out) : Met l yX8_noData (.code yX8_noData cX8_noData 2 (some .boolean) :: BT) ({ frames := 0, cells := 0, slots := 0, locals := 0 }) (va_Pc [.ref (am 99), .int x1] (PreW G sz (mO G am as_ ar ac an ath ah m_am ++ (sO G as_ s_as_ ++ [])))) (Ans G out (va_A (mO G am as_ ar ac an ath ah m_am ++ (sO G as_ s_as_ ++ [])) sz) (mO G am as_ ar ac an ath ah m_am ++ (sO G as_ s_as_ ++ []))) 0 0 (va_A (mO G am as_ ar ac an ath ah m_am ++ (sO G as_ s_as_ ++ [])) sz) := by
  refine Met.into (by decide) (Nat.le_of_ble_eq_true rfl) ?_
  intro p e s m below meth c C hsz ls hl hw
  have hl : lv_has ls 2 [(0, .ref (am 99)), (1, .int x1)] := hl
  clear hsz
  generalize va_A (mO G am as_ ar ac an ath ah m_am ++ (sO G as_ s_as_ ++ [])) sz = A at hw ⊢
  unfold f_X8_noData at hf
  refine r_aload0 C hl 0 rfl dX8_noData_0 ?_
  refine r_get C hw _ (gx_h mO_o) 2 fl_X8_85 rfl dX8_noData_1 ?_
  refine lv_if_eq (tgt := 22) C.1 C.2.1 dX8_noData_4 (by decide) (fun hc => ?_) (fun hc => ?_)
  · replace hf := ifp hf hc
    refine lv_iconst (v := 1) C.1 C.2.1 dX8_noData_22 (by decide) ?_
    refine lv_goto (tgt := 27) C.1 C.2.1 dX8_noData_23 (by decide) ?_
    exact fin_z C hw (by decide) (Option.some.inj hf) (fun o => o) (fun o => (mO G am as_ ar ac an ath ah m_am ++ (sO G as_ s_as_ ++ []))) rfl rfl dX8_noData_27
  · replace hf := ifn hf hc
    refine r_iload0 C hl 1 rfl dX8_noData_7 ?_
    refine lv_if_lt (tgt := 22) C.1 C.2.1 dX8_noData_8 (by decide) (fun hc => ?_) (fun hc => ?_)
    · replace hf := ifp hf hc
      refine lv_iconst (v := 1) C.1 C.2.1 dX8_noData_22 (by decide) ?_
      refine lv_goto (tgt := 27) C.1 C.2.1 dX8_noData_23 (by decide) ?_
      exact fin_z C hw (by decide) (Option.some.inj hf) (fun o => o) (fun o => (mO G am as_ ar ac an ath ah m_am ++ (sO G as_ s_as_ ++ []))) rfl rfl dX8_noData_27
    · replace hf := ifn hf hc
      refine r_iload0 C hl 1 rfl dX8_noData_11 ?_
      refine r_aload0 C hl 0 rfl dX8_noData_12 ?_
      refine r_get C hw _ (gx_h mO_o) 6 fl_X8_16 rfl dX8_noData_13 ?_
      refine r_get C hw _ (gx_t (gx_h sO_o)) 3 fl_X8_96 rfl dX8_noData_16 ?_
      refine lv_icmp_lt (tgt := 26) C.1 C.2.1 dX8_noData_19 (by decide) (fun hc => ?_) (fun hc => ?_)
      · replace hf := ifp hf hc
        refine lv_iconst (v := 0) C.1 C.2.1 dX8_noData_26 (by decide) ?_
        exact fin_z C hw (by decide) (Option.some.inj hf) (fun o => o) (fun o => (mO G am as_ ar ac an ath ah m_am ++ (sO G as_ s_as_ ++ []))) rfl rfl dX8_noData_27
      · replace hf := ifn hf hc
        refine lv_iconst (v := 1) C.1 C.2.1 dX8_noData_22 (by decide) ?_
        refine lv_goto (tgt := 27) C.1 C.2.1 dX8_noData_23 (by decide) ?_
        exact fin_z C hw (by decide) (Option.some.inj hf) (fun o => o) (fun o => (mO G am as_ ar ac an ath ah m_am ++ (sO G as_ s_as_ ++ []))) rfl rfl dX8_noData_27
set_option maxHeartbeats 4000000 in
set_option maxRecDepth 100000 in
theorem c_X8_noOp (l : Launch) (G : GG) (am : Nat → Nat) (as_ : Nat → Nat) (ar : Nat → Nat) (ac : Nat → Nat) (an : Nat → Nat) (ath : Nat → Nat) (ah : Nat → Nat) (sz : Nat) (m_am : Pic) (s_as_ : Pic) (x1 : Int32) (out : Int32) (hf : f_X8_noOp m_am s_as_ x1 = some out) : Met l yX8_noOp (.code yX8_noOp cX8_noOp 2 (some .boolean) :: BT) ({ frames := 0, cells := 0, slots := 0, locals := 0 }) (va_Pc [.ref (am 99), .int x1] (PreW G sz (mO G am as_ ar ac an ath ah m_am ++ (sO G as_ s_as_ ++ [])))) (Ans G out (va_A (mO G am as_ ar ac an ath ah m_am ++ (sO G as_ s_as_ ++ [])) sz) (mO G am as_ ar ac an ath ah m_am ++ (sO G as_ s_as_ ++ []))) 0 0 (va_A (mO G am as_ ar ac an ath ah m_am ++ (sO G as_ s_as_ ++ [])) sz) := by
  refine Met.into (by decide) (Nat.le_of_ble_eq_true rfl) ?_
  intro p e s m below meth c C hsz ls hl hw
  have hl : lv_has ls 2 [(0, .ref (am 99)), (1, .int x1)] := hl
  clear hsz
  generalize va_A (mO G am as_ ar ac an ath ah m_am ++ (sO G as_ s_as_ ++ [])) sz = A at hw ⊢
  unfold f_X8_noOp at hf
  refine r_aload0 C hl 0 rfl dX8_noOp_0 ?_
  refine r_get C hw _ (gx_h mO_o) 2 fl_X8_85 rfl dX8_noOp_1 ?_
  refine lv_if_eq (tgt := 22) C.1 C.2.1 dX8_noOp_4 (by decide) (fun hc => ?_) (fun hc => ?_)
  · replace hf := ifp hf hc
    refine lv_iconst (v := 1) C.1 C.2.1 dX8_noOp_22 (by decide) ?_
    refine lv_goto (tgt := 27) C.1 C.2.1 dX8_noOp_23 (by decide) ?_
    exact fin_z C hw (by decide) (Option.some.inj hf) (fun o => o) (fun o => (mO G am as_ ar ac an ath ah m_am ++ (sO G as_ s_as_ ++ []))) rfl rfl dX8_noOp_27
  · replace hf := ifn hf hc
    refine r_iload0 C hl 1 rfl dX8_noOp_7 ?_
    refine lv_if_lt (tgt := 22) C.1 C.2.1 dX8_noOp_8 (by decide) (fun hc => ?_) (fun hc => ?_)
    · replace hf := ifp hf hc
      refine lv_iconst (v := 1) C.1 C.2.1 dX8_noOp_22 (by decide) ?_
      refine lv_goto (tgt := 27) C.1 C.2.1 dX8_noOp_23 (by decide) ?_
      exact fin_z C hw (by decide) (Option.some.inj hf) (fun o => o) (fun o => (mO G am as_ ar ac an ath ah m_am ++ (sO G as_ s_as_ ++ []))) rfl rfl dX8_noOp_27
    · replace hf := ifn hf hc
      refine r_iload0 C hl 1 rfl dX8_noOp_11 ?_
      refine r_aload0 C hl 0 rfl dX8_noOp_12 ?_
      refine r_get C hw _ (gx_h mO_o) 6 fl_X8_16 rfl dX8_noOp_13 ?_
      refine r_get C hw _ (gx_t (gx_h sO_o)) 4 fl_X8_117 rfl dX8_noOp_16 ?_
      refine lv_icmp_lt (tgt := 26) C.1 C.2.1 dX8_noOp_19 (by decide) (fun hc => ?_) (fun hc => ?_)
      · replace hf := ifp hf hc
        refine lv_iconst (v := 0) C.1 C.2.1 dX8_noOp_26 (by decide) ?_
        exact fin_z C hw (by decide) (Option.some.inj hf) (fun o => o) (fun o => (mO G am as_ ar ac an ath ah m_am ++ (sO G as_ s_as_ ++ []))) rfl rfl dX8_noOp_27
      · replace hf := ifn hf hc
        refine lv_iconst (v := 1) C.1 C.2.1 dX8_noOp_22 (by decide) ?_
        refine lv_goto (tgt := 27) C.1 C.2.1 dX8_noOp_23 (by decide) ?_
        exact fin_z C hw (by decide) (Option.some.inj hf) (fun o => o) (fun o => (mO G am as_ ar ac an ath ah m_am ++ (sO G as_ s_as_ ++ []))) rfl rfl dX8_noOp_27
set_option maxHeartbeats 4000000 in
set_option maxRecDepth 100000 in
theorem c_X8_noPage (l : Launch) (G : GG) (am : Nat → Nat) (as_ : Nat → Nat) (ar : Nat → Nat) (ac : Nat → Nat) (an : Nat → Nat) (ath : Nat → Nat) (ah : Nat → Nat) (sz : Nat) (m_am : Pic) (x1 : Int32) (out : Int32) (hf : f_X8_noPage m_am x1 = some out) : Met l yX8_noPage (.code yX8_noPage cX8_noPage 2 (some .boolean) :: BT) ({ frames := 0, cells := 0, slots := 0, locals := 0 }) (va_Pc [.ref (am 99), .int x1] (PreW G sz (mO G am as_ ar ac an ath ah m_am ++ []))) (Ans G out (va_A (mO G am as_ ar ac an ath ah m_am ++ []) sz) (mO G am as_ ar ac an ath ah m_am ++ [])) 0 0 (va_A (mO G am as_ ar ac an ath ah m_am ++ []) sz) := by
  refine Met.into (by decide) (Nat.le_of_ble_eq_true rfl) ?_
  intro p e s m below meth c C hsz ls hl hw
  have hl : lv_has ls 2 [(0, .ref (am 99)), (1, .int x1)] := hl
  clear hsz
  generalize va_A (mO G am as_ ar ac an ath ah m_am ++ []) sz = A at hw ⊢
  unfold f_X8_noPage at hf
  refine r_aload0 C hl 0 rfl dX8_noPage_0 ?_
  refine r_get C hw _ (gx_h mO_o) 2 fl_X8_85 rfl dX8_noPage_1 ?_
  refine lv_if_eq (tgt := 17) C.1 C.2.1 dX8_noPage_4 (by decide) (fun hc => ?_) (fun hc => ?_)
  · replace hf := ifp hf hc
    refine lv_iconst (v := 1) C.1 C.2.1 dX8_noPage_17 (by decide) ?_
    refine lv_goto (tgt := 22) C.1 C.2.1 dX8_noPage_18 (by decide) ?_
    exact fin_z C hw (by decide) (Option.some.inj hf) (fun o => o) (fun o => (mO G am as_ ar ac an ath ah m_am ++ [])) rfl rfl dX8_noPage_22
  · replace hf := ifn hf hc
    refine r_iload0 C hl 1 rfl dX8_noPage_7 ?_
    refine lv_if_lt (tgt := 17) C.1 C.2.1 dX8_noPage_8 (by decide) (fun hc => ?_) (fun hc => ?_)
    · replace hf := ifp hf hc
      refine lv_iconst (v := 1) C.1 C.2.1 dX8_noPage_17 (by decide) ?_
      refine lv_goto (tgt := 22) C.1 C.2.1 dX8_noPage_18 (by decide) ?_
      exact fin_z C hw (by decide) (Option.some.inj hf) (fun o => o) (fun o => (mO G am as_ ar ac an ath ah m_am ++ [])) rfl rfl dX8_noPage_22
    · replace hf := ifn hf hc
      refine r_iload0 C hl 1 rfl dX8_noPage_11 ?_
      refine lv_bipush (v := 30) C.1 C.2.1 dX8_noPage_12 (by decide) ?_
      refine lv_icmp_lt (tgt := 21) C.1 C.2.1 dX8_noPage_14 (by decide) (fun hc => ?_) (fun hc => ?_)
      · replace hf := ifp hf hc
        refine lv_iconst (v := 0) C.1 C.2.1 dX8_noPage_21 (by decide) ?_
        exact fin_z C hw (by decide) (Option.some.inj hf) (fun o => o) (fun o => (mO G am as_ ar ac an ath ah m_am ++ [])) rfl rfl dX8_noPage_22
      · replace hf := ifn hf hc
        refine lv_iconst (v := 1) C.1 C.2.1 dX8_noPage_17 (by decide) ?_
        refine lv_goto (tgt := 22) C.1 C.2.1 dX8_noPage_18 (by decide) ?_
        exact fin_z C hw (by decide) (Option.some.inj hf) (fun o => o) (fun o => (mO G am as_ ar ac an ath ah m_am ++ [])) rfl rfl dX8_noPage_22
set_option maxHeartbeats 4000000 in
set_option maxRecDepth 100000 in
theorem c_X8_noZone (l : Launch) (G : GG) (am : Nat → Nat) (as_ : Nat → Nat) (ar : Nat → Nat) (ac : Nat → Nat) (an : Nat → Nat) (ath : Nat → Nat) (ah : Nat → Nat) (sz : Nat) (m_am : Pic) (t_an : Pic) (p_an : Pic) (z_an : Pic) (x1 : Int32) (out : Int32) (hf : f_X8_noZone m_am t_an p_an z_an x1 = some out) : Met l yX8_noZone (.code yX8_noZone cX8_noZone 2 (some .boolean) :: BT) ({ frames := 1, cells := 0, slots := 0, locals := 21 }) (va_Pc [.ref (am 99), .int x1] (PreW G sz (mO G am as_ ar ac an ath ah m_am ++ (tO G an t_an ++ (pO G an p_an ++ (zO G an z_an ++ [])))))) (Ans G out (va_A (mO G am as_ ar ac an ath ah m_am ++ (tO G an t_an ++ (pO G an p_an ++ (zO G an z_an ++ [])))) sz) (mO G am as_ ar ac an ath ah m_am ++ (tO G an t_an ++ (pO G an p_an ++ (zO G an z_an ++ []))))) 0 0 (va_A (mO G am as_ ar ac an ath ah m_am ++ (tO G an t_an ++ (pO G an p_an ++ (zO G an z_an ++ [])))) sz) := by
  refine Met.into (by decide) (Nat.le_of_ble_eq_true rfl) ?_
  intro p e s m below meth c C hsz ls hl hw
  have hl : lv_has ls 2 [(0, .ref (am 99)), (1, .int x1)] := hl
  clear hsz
  generalize va_A (mO G am as_ ar ac an ath ah m_am ++ (tO G an t_an ++ (pO G an p_an ++ (zO G an z_an ++ [])))) sz = A at hw ⊢
  unfold f_X8_noZone at hf
  refine r_aload0 C hl 0 rfl dX8_noZone_0 ?_
  refine r_get C hw _ (gx_h mO_o) 2 fl_X8_85 rfl dX8_noZone_1 ?_
  refine lv_if_eq (tgt := 24) C.1 C.2.1 dX8_noZone_4 (by decide) (fun hc => ?_) (fun hc => ?_)
  · replace hf := ifp hf hc
    refine lv_iconst (v := 1) C.1 C.2.1 dX8_noZone_24 (by decide) ?_
    refine lv_goto (tgt := 29) C.1 C.2.1 dX8_noZone_25 (by decide) ?_
    exact fin_z C hw (by decide) (Option.some.inj hf) (fun o => o) (fun o => (mO G am as_ ar ac an ath ah m_am ++ (tO G an t_an ++ (pO G an p_an ++ (zO G an z_an ++ []))))) rfl rfl dX8_noZone_29
  · replace hf := ifn hf hc
    refine r_aload0 C hl 0 rfl dX8_noZone_7 ?_
    refine r_get C hw _ (gx_h mO_o) 9 fl_X8_37 rfl dX8_noZone_8 ?_
    refine r_get C hw _ (gx_t (gx_h tO_o)) 2 fl_X8_105 rfl dX8_noZone_11 ?_
    refine r_get C hw _ (gx_t (gx_t (gx_h pO_o))) 3 fl_X8_120 rfl dX8_noZone_14 ?_
    refine r_iload0 C hl 1 rfl dX8_noZone_17 ?_
    obtain ⟨u1, e1, hf⟩ := bx hf
    refine r_callVi (ws' := (mO G am as_ ar ac an ath ah m_am ++ (tO G an t_an ++ (pO G an p_an ++ (zO G an z_an ++ []))))) (As := [.int x1]) (rest := []) C hw hl.1 kX7_has ml_X8_369 (c_X7_has l G an _ z_an x1 u1 e1) (CutX.skip (CutX.skip (CutX.skip (CutX.take zO_f CutX.none)))) _ (gx_t (gx_t (gx_t (gx_h zO_o)))) rfl ⟨rfl, rfl⟩ ⟨Nat.le_of_ble_eq_true rfl, Nat.le_of_ble_eq_true rfl⟩ rfl ⟨Nat.zero_le _, Nat.zero_le _⟩ rfl (Nat.le_of_ble_eq_true rfl) dX8_noZone_18 (fun H locs hw => ?_)
    refine lv_if_ne (tgt := 28) C.1 C.2.1 dX8_noZone_21 (by decide) (fun hc => ?_) (fun hc => ?_)
    · replace hf := ifn hf hc
      refine lv_iconst (v := 0) C.1 C.2.1 dX8_noZone_28 (by decide) ?_
      exact fin_z C hw (by decide) (Option.some.inj hf) (fun o => o) (fun o => (mO G am as_ ar ac an ath ah m_am ++ (tO G an t_an ++ (pO G an p_an ++ (zO G an z_an ++ []))))) rfl rfl dX8_noZone_29
    · replace hf := ifp hf hc
      refine lv_iconst (v := 1) C.1 C.2.1 dX8_noZone_24 (by decide) ?_
      refine lv_goto (tgt := 29) C.1 C.2.1 dX8_noZone_25 (by decide) ?_
      exact fin_z C hw (by decide) (Option.some.inj hf) (fun o => o) (fun o => (mO G am as_ ar ac an ath ah m_am ++ (tO G an t_an ++ (pO G an p_an ++ (zO G an z_an ++ []))))) rfl rfl dX8_noZone_29
set_option maxHeartbeats 4000000 in
set_option maxRecDepth 100000 in
theorem c_X8_noClass (l : Launch) (G : GG) (am : Nat → Nat) (as_ : Nat → Nat) (ar : Nat → Nat) (ac : Nat → Nat) (an : Nat → Nat) (ath : Nat → Nat) (ah : Nat → Nat) (sz : Nat) (m_am : Pic) (t_an : Pic) (p_an : Pic) (x1 : Int32) (out : Int32) (hf : f_X8_noClass m_am t_an p_an x1 = some out) : Met l yX8_noClass (.code yX8_noClass cX8_noClass 2 (some .boolean) :: BT) ({ frames := 1, cells := 0, slots := 0, locals := 21 }) (va_Pc [.ref (am 99), .int x1] (PreW G sz (mO G am as_ ar ac an ath ah m_am ++ (tO G an t_an ++ (pO G an p_an ++ []))))) (Ans G out (va_A (mO G am as_ ar ac an ath ah m_am ++ (tO G an t_an ++ (pO G an p_an ++ []))) sz) (mO G am as_ ar ac an ath ah m_am ++ (tO G an t_an ++ (pO G an p_an ++ [])))) 0 0 (va_A (mO G am as_ ar ac an ath ah m_am ++ (tO G an t_an ++ (pO G an p_an ++ []))) sz) := by
  refine Met.into (by decide) (Nat.le_of_ble_eq_true rfl) ?_
  intro p e s m below meth c C hsz ls hl hw
  have hl : lv_has ls 2 [(0, .ref (am 99)), (1, .int x1)] := hl
  clear hsz
  generalize va_A (mO G am as_ ar ac an ath ah m_am ++ (tO G an t_an ++ (pO G an p_an ++ []))) sz = A at hw ⊢
  unfold f_X8_noClass at hf
  refine r_aload0 C hl 0 rfl dX8_noClass_0 ?_
  refine r_get C hw _ (gx_h mO_o) 2 fl_X8_85 rfl dX8_noClass_1 ?_
  refine lv_if_eq (tgt := 24) C.1 C.2.1 dX8_noClass_4 (by decide) (fun hc => ?_) (fun hc => ?_)
  · replace hf := ifp hf hc
    refine lv_iconst (v := 1) C.1 C.2.1 dX8_noClass_24 (by decide) ?_
    refine lv_goto (tgt := 29) C.1 C.2.1 dX8_noClass_25 (by decide) ?_
    exact fin_z C hw (by decide) (Option.some.inj hf) (fun o => o) (fun o => (mO G am as_ ar ac an ath ah m_am ++ (tO G an t_an ++ (pO G an p_an ++ [])))) rfl rfl dX8_noClass_29
  · replace hf := ifn hf hc
    refine r_iload0 C hl 1 rfl dX8_noClass_7 ?_
    refine r_aload0 C hl 0 rfl dX8_noClass_8 ?_
    refine r_get C hw _ (gx_h mO_o) 9 fl_X8_37 rfl dX8_noClass_9 ?_
    refine r_get C hw _ (gx_t (gx_h tO_o)) 2 fl_X8_105 rfl dX8_noClass_12 ?_
    refine r_get C hw _ (gx_t (gx_t (gx_h pO_o))) 1 fl_X8_111 rfl dX8_noClass_15 ?_
    obtain ⟨u1, e1, hf⟩ := bx hf
    refine r_callSi (ws' := (mO G am as_ ar ac an ath ah m_am ++ (tO G an t_an ++ (pO G an p_an ++ [])))) (As := [.int x1, .int (gS p_an 1)]) (rest := []) C hw hl.1 kX0_isClass ml_X8_372 (c_X0_isClass l G _ x1 (gS p_an 1) u1 e1) CutX.none ⟨rfl, rfl⟩ ⟨Nat.le_of_ble_eq_true rfl, Nat.le_of_ble_eq_true rfl⟩ rfl ⟨Nat.zero_le _, Nat.zero_le _⟩ rfl (Nat.le_of_ble_eq_true rfl) dX8_noClass_18 (fun H locs hw => ?_)
    refine lv_if_ne (tgt := 28) C.1 C.2.1 dX8_noClass_21 (by decide) (fun hc => ?_) (fun hc => ?_)
    · replace hf := ifn hf hc
      refine lv_iconst (v := 0) C.1 C.2.1 dX8_noClass_28 (by decide) ?_
      exact fin_z C hw (by decide) (Option.some.inj hf) (fun o => o) (fun o => (mO G am as_ ar ac an ath ah m_am ++ (tO G an t_an ++ (pO G an p_an ++ [])))) rfl rfl dX8_noClass_29
    · replace hf := ifp hf hc
      refine lv_iconst (v := 1) C.1 C.2.1 dX8_noClass_24 (by decide) ?_
      refine lv_goto (tgt := 29) C.1 C.2.1 dX8_noClass_25 (by decide) ?_
      exact fin_z C hw (by decide) (Option.some.inj hf) (fun o => o) (fun o => (mO G am as_ ar ac an ath ah m_am ++ (tO G an t_an ++ (pO G an p_an ++ [])))) rfl rfl dX8_noClass_29
set_option maxHeartbeats 4000000 in
set_option maxRecDepth 100000 in
theorem c_X8_noCell (l : Launch) (G : GG)  (sz : Nat)  (x0 : Int32) (out : Int32) (hf : f_X8_noCell x0 = some out) : Met l yX8_noCell (.code yX8_noCell cX8_noCell 1 (some .boolean) :: BT) ({ frames := 0, cells := 0, slots := 0, locals := 0 }) (va_Pc [.int x0] (PreW G sz [])) (Ans G out (va_A [] sz) []) 0 0 (va_A [] sz) := by
  refine Met.into (by decide) (Nat.le_of_ble_eq_true rfl) ?_
  intro p e s m below meth c C hsz ls hl hw
  have hl : lv_has ls 1 [(0, .int x0)] := hl
  clear hsz
  generalize va_A [] sz = A at hw ⊢
  unfold f_X8_noCell at hf
  refine r_iload0 C hl 0 rfl dX8_noCell_0 ?_
  refine lv_if_lt (tgt := 10) C.1 C.2.1 dX8_noCell_1 (by decide) (fun hc => ?_) (fun hc => ?_)
  · replace hf := ifp hf hc
    refine lv_iconst (v := 1) C.1 C.2.1 dX8_noCell_10 (by decide) ?_
    refine lv_goto (tgt := 15) C.1 C.2.1 dX8_noCell_11 (by decide) ?_
    exact fin_z C hw (by decide) (Option.some.inj hf) (fun o => o) (fun o => []) rfl rfl dX8_noCell_15
  · replace hf := ifn hf hc
    refine r_iload0 C hl 0 rfl dX8_noCell_4 ?_
    refine lv_bipush (v := 16) C.1 C.2.1 dX8_noCell_5 (by decide) ?_
    refine lv_icmp_lt (tgt := 14) C.1 C.2.1 dX8_noCell_7 (by decide) (fun hc => ?_) (fun hc => ?_)
    · replace hf := ifp hf hc
      refine lv_iconst (v := 0) C.1 C.2.1 dX8_noCell_14 (by decide) ?_
      exact fin_z C hw (by decide) (Option.some.inj hf) (fun o => o) (fun o => []) rfl rfl dX8_noCell_15
    · replace hf := ifn hf hc
      refine lv_iconst (v := 1) C.1 C.2.1 dX8_noCell_10 (by decide) ?_
      refine lv_goto (tgt := 15) C.1 C.2.1 dX8_noCell_11 (by decide) ?_
      exact fin_z C hw (by decide) (Option.some.inj hf) (fun o => o) (fun o => []) rfl rfl dX8_noCell_15
set_option maxHeartbeats 4000000 in
set_option maxRecDepth 100000 in
theorem c_X8_noSize (l : Launch) (G : GG)  (sz : Nat)  (x0 : Int32) (out : Int32) (hf : f_X8_noSize x0 = some out) : Met l yX8_noSize (.code yX8_noSize cX8_noSize 1 (some .boolean) :: BT) ({ frames := 0, cells := 0, slots := 0, locals := 0 }) (va_Pc [.int x0] (PreW G sz [])) (Ans G out (va_A [] sz) []) 0 0 (va_A [] sz) := by
  refine Met.into (by decide) (Nat.le_of_ble_eq_true rfl) ?_
  intro p e s m below meth c C hsz ls hl hw
  have hl : lv_has ls 1 [(0, .int x0)] := hl
  clear hsz
  generalize va_A [] sz = A at hw ⊢
  unfold f_X8_noSize at hf
  refine r_iload0 C hl 0 rfl dX8_noSize_0 ?_
  refine lv_iconst (v := 2) C.1 C.2.1 dX8_noSize_1 (by decide) ?_
  refine lv_icmp_lt (tgt := 11) C.1 C.2.1 dX8_noSize_2 (by decide) (fun hc => ?_) (fun hc => ?_)
  · replace hf := ifp hf hc
    refine lv_iconst (v := 1) C.1 C.2.1 dX8_noSize_11 (by decide) ?_
    refine lv_goto (tgt := 16) C.1 C.2.1 dX8_noSize_12 (by decide) ?_
    exact fin_z C hw (by decide) (Option.some.inj hf) (fun o => o) (fun o => []) rfl rfl dX8_noSize_16
  · replace hf := ifn hf hc
    refine r_iload0 C hl 0 rfl dX8_noSize_5 ?_
    refine lv_bipush (v := 15) C.1 C.2.1 dX8_noSize_6 (by decide) ?_
    refine lv_icmp_le (tgt := 15) C.1 C.2.1 dX8_noSize_8 (by decide) (fun hc => ?_) (fun hc => ?_)
    · replace hf := ifp hf hc
      refine lv_iconst (v := 0) C.1 C.2.1 dX8_noSize_15 (by decide) ?_
      exact fin_z C hw (by decide) (Option.some.inj hf) (fun o => o) (fun o => []) rfl rfl dX8_noSize_16
    · replace hf := ifn hf hc
      refine lv_iconst (v := 1) C.1 C.2.1 dX8_noSize_11 (by decide) ?_
      refine lv_goto (tgt := 16) C.1 C.2.1 dX8_noSize_12 (by decide) ?_
      exact fin_z C hw (by decide) (Option.some.inj hf) (fun o => o) (fun o => []) rfl rfl dX8_noSize_16
set_option maxHeartbeats 4000000 in
set_option maxRecDepth 100000 in
theorem c_X8_noLimit (l : Launch) (G : GG)  (sz : Nat)  (x0 : Int32) (out : Int32) (hf : f_X8_noLimit x0 = some out) : Met l yX8_noLimit (.code yX8_noLimit cX8_noLimit 1 (some .boolean) :: BT) ({ frames := 0, cells := 0, slots := 0, locals := 0 }) (va_Pc [.int x0] (PreW G sz [])) (Ans G out (va_A [] sz) []) 0 0 (va_A [] sz) := by
  refine Met.into (by decide) (Nat.le_of_ble_eq_true rfl) ?_
  intro p e s m below meth c C hsz ls hl hw
  have hl : lv_has ls 1 [(0, .int x0)] := hl
  clear hsz
  generalize va_A [] sz = A at hw ⊢
  unfold f_X8_noLimit at hf
  refine r_iload0 C hl 0 rfl dX8_noLimit_0 ?_
  refine lv_iconst (v := 1) C.1 C.2.1 dX8_noLimit_1 (by decide) ?_
  refine lv_icmp_lt (tgt := 11) C.1 C.2.1 dX8_noLimit_2 (by decide) (fun hc => ?_) (fun hc => ?_)
  · replace hf := ifp hf hc
    refine lv_iconst (v := 1) C.1 C.2.1 dX8_noLimit_11 (by decide) ?_
    refine lv_goto (tgt := 16) C.1 C.2.1 dX8_noLimit_12 (by decide) ?_
    exact fin_z C hw (by decide) (Option.some.inj hf) (fun o => o) (fun o => []) rfl rfl dX8_noLimit_16
  · replace hf := ifn hf hc
    refine r_iload0 C hl 0 rfl dX8_noLimit_5 ?_
    refine lv_bipush (v := 24) C.1 C.2.1 dX8_noLimit_6 (by decide) ?_
    refine lv_icmp_le (tgt := 15) C.1 C.2.1 dX8_noLimit_8 (by decide) (fun hc => ?_) (fun hc => ?_)
    · replace hf := ifp hf hc
      refine lv_iconst (v := 0) C.1 C.2.1 dX8_noLimit_15 (by decide) ?_
      exact fin_z C hw (by decide) (Option.some.inj hf) (fun o => o) (fun o => []) rfl rfl dX8_noLimit_16
    · replace hf := ifn hf hc
      refine lv_iconst (v := 1) C.1 C.2.1 dX8_noLimit_11 (by decide) ?_
      refine lv_goto (tgt := 16) C.1 C.2.1 dX8_noLimit_12 (by decide) ?_
      exact fin_z C hw (by decide) (Option.some.inj hf) (fun o => o) (fun o => []) rfl rfl dX8_noLimit_16
set_option maxHeartbeats 4000000 in
set_option maxRecDepth 100000 in
theorem c_X8_feedNumber (l : Launch) (G : GG) (am : Nat → Nat) (as_ : Nat → Nat) (ar : Nat → Nat) (ac : Nat → Nat) (an : Nat → Nat) (ath : Nat → Nat) (ah : Nat → Nat) (sz : Nat) (m_am : Pic) (b_am : Pic) (x1 : Int32) (out : Pic × Pic) (hf : f_X8_feedNumber m_am b_am x1 = some out) : Met l yX8_feedNumber (.code yX8_feedNumber cX8_feedNumber 3 none :: BT) ({ frames := 0, cells := 0, slots := 0, locals := 0 }) (va_Pc [.ref (am 99), .int x1] (PreW G sz (mO G am as_ ar ac an ath ah m_am ++ (bO G am b_am ++ [])))) (Don G (va_A (mO G am as_ ar ac an ath ah m_am ++ (bO G am b_am ++ [])) sz) (mO G am as_ ar ac an ath ah out.1 ++ (bO G am out.2 ++ []))) 0 0 (va_A (mO G am as_ ar ac an ath ah m_am ++ (bO G am b_am ++ [])) sz) := by
  refine Met.into (by decide) (Nat.le_of_ble_eq_true rfl) ?_
  intro p e s m below meth c C hsz ls hl hw
  have hl : lv_has ls 3 [(0, .ref (am 99)), (1, .int x1)] := hl
  clear hsz
  generalize va_A (mO G am as_ ar ac an ath ah m_am ++ (bO G am b_am ++ [])) sz = A at hw ⊢
  have hB_3 : ∀ (k3 : Pic → Pic → Int32 → Option (Pic × Pic)) (hk3 : ∀ (m_am : Pic) (b_am : Pic) (v2 : Int32), k3 m_am b_am v2 = some out → ∀ (H : Heap) (locs : List Loc), Wd G A s H locs (mO G am as_ ar ac an ath ah m_am ++ (bO G am b_am ++ [])) → ∀ ls : Array Slot, lv_has ls 3 [(0, .ref (am 99)), (1, .int x1), (2, .int v2)] → W p l e ({ frames := 0, cells := 0, slots := 0, locals := 0 }) s m [.ref (am 99), .int x1].toArray below meth c H locs 0 0 (MQ below (Don G A (mO G am as_ ar ac an ath ah out.1 ++ (bO G am out.2 ++ []))) [.ref (am 99), .int x1].toArray s 0 0 A) (F0 m 3 ls [])), ∀ (m_am : Pic) (b_am : Pic) (v2 : Int32), b_X8_feedNumber_3 x1 k3 m_am b_am v2 = some out → ∀ (H : Heap) (locs : List Loc), Wd G A s H locs (mO G am as_ ar ac an ath ah m_am ++ (bO G am b_am ++ [])) → ∀ ls : Array Slot, lv_has ls 3 [(0, .ref (am 99)), (1, .int x1), (2, .int v2)] → W p l e ({ frames := 0, cells := 0, slots := 0, locals := 0 }) s m [.ref (am 99), .int x1].toArray below meth c H locs 0 0 (MQ below (Don G A (mO G am as_ ar ac an ath ah out.1 ++ (bO G am out.2 ++ []))) [.ref (am 99), .int x1].toArray s 0 0 A) (F0 m 3 ls []) := by
    intro k3 hk3 m_am b_am v2 hf H locs hw ls hl
    unfold b_X8_feedNumber_3 at hf
    refine r_iload0 C hl 2 rfl dX8_feedNumber_3 ?_
    refine lv_if_lt (tgt := 49) C.1 C.2.1 dX8_feedNumber_4 (by decide) (fun hc => ?_) (fun hc => ?_)
    · replace hf := ifp hf hc
      exact fin_v C hw (Option.some.inj hf) (fun o => (mO G am as_ ar ac an ath ah o.1 ++ (bO G am o.2 ++ []))) rfl dX8_feedNumber_49
    · replace hf := ifn hf hc
      refine r_aload0 C hl 0 rfl dX8_feedNumber_7 ?_
      refine r_get C hw _ (gx_h mO_o) 1 fl_X8_55 rfl dX8_feedNumber_8 ?_
      refine lv_sipush (v := 900) C.1 C.2.1 dX8_feedNumber_11 (by decide) ?_
      refine lv_icmp_ge (tgt := 49) C.1 C.2.1 dX8_feedNumber_14 (by decide) (fun hc => ?_) (fun hc => ?_)
      · replace hf := ifp hf hc
        exact fin_v C hw (Option.some.inj hf) (fun o => (mO G am as_ ar ac an ath ah o.1 ++ (bO G am o.2 ++ []))) rfl dX8_feedNumber_49
      · replace hf := ifn hf hc
        refine r_aload0 C hl 0 rfl dX8_feedNumber_17 ?_
        refine r_get C hw _ (gx_h mO_o) 0 fl_X8_9 rfl dX8_feedNumber_18 ?_
        refine r_aload0 C hl 0 rfl dX8_feedNumber_21 ?_
        refine r_get C hw _ (gx_h mO_o) 1 fl_X8_55 rfl dX8_feedNumber_22 ?_
        refine r_iload0 C hl 1 rfl dX8_feedNumber_25 ?_
        refine r_iload0 C hl 2 rfl dX8_feedNumber_26 ?_
        refine lv_iushr C.1 C.2.1 dX8_feedNumber_27 rfl ?_
        refine lv_sipush (v := 255) C.1 C.2.1 dX8_feedNumber_28 (by decide) ?_
        refine lv_iand C.1 C.2.1 dX8_feedNumber_31 ?_
        obtain ⟨b_am1, e1, hf⟩ := bx hf
        refine r_iast C hw _ (gx_t (gx_h bO_g0)) e1 (mO G am as_ ar ac an ath ah m_am ++ (bO G am b_am1 ++ [])) (fun h => (sx_t (sx_h bO_g0 (bO_s0 h)))) dX8_feedNumber_32 (fun H locs hw => ?_)
        refine r_aload0 C hl 0 rfl dX8_feedNumber_33 ?_
        refine lv_dup C.1 C.2.1 dX8_feedNumber_34 rfl ?_
        refine r_get C hw _ (gx_h mO_o) 1 fl_X8_55 rfl dX8_feedNumber_35 ?_
        refine lv_iconst (v := 1) C.1 C.2.1 dX8_feedNumber_38 (by decide) ?_
        refine lv_iadd C.1 C.2.1 dX8_feedNumber_39 ?_
        obtain ⟨m_am2, e2, hf⟩ := bx hf
        refine r_put C hw _ (gx_h mO_o) 1 fp_X8_55 rfl rfl (Nat.le_of_ble_eq_true rfl) (mO G am as_ ar ac an ath ah m_am2 ++ (bO G am b_am1 ++ [])) (sx_h mO_o (mO_p1 e2)) dX8_feedNumber_40 (fun H locs hw => ?_)
        refine r_iinc C hl 2 (v2 + (-8)) [(2, .int (v2 + (-8))), (0, .ref (am 99)), (1, .int x1)] rfl (iinc_e (by decide)) (by decide) rfl dX8_feedNumber_43 (fun ls hl => ?_)
        refine lv_goto (tgt := 3) C.1 C.2.1 dX8_feedNumber_46 (by decide) ?_
        exact hk3 m_am2 b_am1 (v2 + (-8)) hf _ _ hw _ (lv_sub hl [1, 2, 0] rfl)
  have hL_3 : ∀ n : Nat, ∀ (m_am : Pic) (b_am : Pic) (v2 : Int32), L_X8_feedNumber_3 x1  n m_am b_am v2 = some out → ∀ (H : Heap) (locs : List Loc), Wd G A s H locs (mO G am as_ ar ac an ath ah m_am ++ (bO G am b_am ++ [])) → ∀ ls : Array Slot, lv_has ls 3 [(0, .ref (am 99)), (1, .int x1), (2, .int v2)] → W p l e ({ frames := 0, cells := 0, slots := 0, locals := 0 }) s m [.ref (am 99), .int x1].toArray below meth c H locs 0 0 (MQ below (Don G A (mO G am as_ ar ac an ath ah out.1 ++ (bO G am out.2 ++ []))) [.ref (am 99), .int x1].toArray s 0 0 A) (F0 m 3 ls []) := by
    intro  n
    induction n with
    | zero => intro m_am b_am v2 hf; cases hf
    | succ n ih => exact hB_3 _ ih
  unfold f_X8_feedNumber at hf
  refine lv_bipush (v := 24) C.1 C.2.1 dX8_feedNumber_0 (by decide) ?_
  refine r_istore0 C hl [(2, .int 24), (0, .ref (am 99)), (1, .int x1)] (by decide) rfl dX8_feedNumber_2 (fun ls hl => ?_)
  exact hL_3  FU m_am b_am 24 hf _ _ hw _ (lv_sub hl [1, 2, 0] rfl)
set_option maxHeartbeats 4000000 in
set_option maxRecDepth 100000 in
theorem c_X8_cutData (l : Launch) (G : GG) (am : Nat → Nat) (as_ : Nat → Nat) (ar : Nat → Nat) (ac : Nat → Nat) (an : Nat → Nat) (ath : Nat → Nat) (ah : Nat → Nat) (sz : Nat) (m_am : Pic) (c_ac : Pic) (t_an : Pic) (e_an : Pic) (x1 : Int32) (out : Pic) (hf : f_X8_cutData m_am c_ac t_an e_an x1 = some out) : Met l yX8_cutData (.code yX8_cutData cX8_cutData 2 none :: BT) ({ frames := 4, cells := 0, slots := 0, locals := 95 }) (va_Pc [.ref (am 99), .int x1] (PreW G sz (mO G am as_ ar ac an ath ah m_am ++ (cO G ac c_ac ++ (tO G an t_an ++ (eO G an e_an ++ [])))))) (Don G (va_A (mO G am as_ ar ac an ath ah m_am ++ (cO G ac c_ac ++ (tO G an t_an ++ (eO G an e_an ++ [])))) sz) (mO G am as_ ar ac an ath ah m_am ++ (cO G ac out ++ (tO G an t_an ++ (eO G an e_an ++ []))))) 0 0 (va_A (mO G am as_ ar ac an ath ah m_am ++ (cO G ac c_ac ++ (tO G an t_an ++ (eO G an e_an ++ [])))) sz) := by
  refine Met.into (by decide) (Nat.le_of_ble_eq_true rfl) ?_
  intro p e s m below meth c C hsz ls hl hw
  have hl : lv_has ls 2 [(0, .ref (am 99)), (1, .int x1)] := hl
  clear hsz
  generalize va_A (mO G am as_ ar ac an ath ah m_am ++ (cO G ac c_ac ++ (tO G an t_an ++ (eO G an e_an ++ [])))) sz = A at hw ⊢
  unfold f_X8_cutData at hf
  refine r_aload0 C hl 0 rfl dX8_cutData_0 ?_
  refine r_get C hw _ (gx_h mO_o) 8 fl_X8_30 rfl dX8_cutData_1 ?_
  refine r_aload0 C hl 0 rfl dX8_cutData_4 ?_
  refine r_get C hw _ (gx_h mO_o) 9 fl_X8_37 rfl dX8_cutData_5 ?_
  refine r_get C hw _ (gx_t (gx_t (gx_h tO_o))) 0 fl_X8_148 rfl dX8_cutData_8 ?_
  refine r_iload0 C hl 1 rfl dX8_cutData_11 ?_
  refine lv_bipush (v := 16) C.1 C.2.1 dX8_cutData_12 (by decide) ?_
  refine lv_imul C.1 C.2.1 dX8_cutData_14 ?_
  obtain ⟨u1, e1, hf⟩ := bx hf
  refine r_callVv (ws' := (mO G am as_ ar ac an ath ah m_am ++ (cO G ac u1 ++ (tO G an t_an ++ (eO G an e_an ++ []))))) (As := [.ref (an 200), .int (x1 * 16)]) (rest := []) C hw hl.1 kX1_measure ml_X8_172 (c_X1_measure l G ac an _ c_ac e_an (x1 * 16) u1 e1) (CutX.skip (CutX.take cO_f (CutX.skip (CutX.take eO_f CutX.none)))) _ (gx_t (gx_h cO_o)) rfl ⟨rfl, rfl⟩ ⟨Nat.le_of_ble_eq_true rfl, Nat.le_of_ble_eq_true rfl⟩ rfl ⟨Nat.zero_le _, Nat.zero_le _⟩ rfl (Nat.le_of_ble_eq_true rfl) dX8_cutData_15 (fun H locs hw => ?_)
  refine r_aload0 C hl 0 rfl dX8_cutData_18 ?_
  refine r_get C hw _ (gx_h mO_o) 8 fl_X8_30 rfl dX8_cutData_19 ?_
  obtain ⟨u2, e2, hf⟩ := bx hf
  refine r_callVv (ws' := (mO G am as_ ar ac an ath ah m_am ++ (cO G ac u2 ++ (tO G an t_an ++ (eO G an e_an ++ []))))) (As := []) (rest := []) C hw hl.1 kX1_choosePieces ml_X8_375 (c_X1_choosePieces l G ac _ u1 u2 e2) (CutX.skip (CutX.take cO_f CutX.none)) _ (gx_t (gx_h cO_o)) rfl ⟨rfl, rfl⟩ ⟨Nat.le_of_ble_eq_true rfl, Nat.le_of_ble_eq_true rfl⟩ rfl ⟨Nat.zero_le _, Nat.zero_le _⟩ rfl (Nat.le_of_ble_eq_true rfl) dX8_cutData_22 (fun H locs hw => ?_)
  exact fin_v C hw (Option.some.inj hf) (fun o => (mO G am as_ ar ac an ath ah m_am ++ (cO G ac o ++ (tO G an t_an ++ (eO G an e_an ++ []))))) rfl dX8_cutData_25
set_option maxHeartbeats 4000000 in
set_option maxRecDepth 100000 in
theorem c_X8_rankOf (l : Launch) (G : GG) (am : Nat → Nat) (as_ : Nat → Nat) (ar : Nat → Nat) (ac : Nat → Nat) (an : Nat → Nat) (ath : Nat → Nat) (ah : Nat → Nat) (sz : Nat) (m_am : Pic) (s_as_ : Pic) (t_an : Pic) (x1 : Int32) (out : Int32) (hf : f_X8_rankOf m_am s_as_ t_an x1 = some out) : Met l yX8_rankOf (.code yX8_rankOf cX8_rankOf 5 (some .int) :: BT) ({ frames := 0, cells := 0, slots := 0, locals := 0 }) (va_Pc [.ref (am 99), .int x1] (PreW G sz (mO G am as_ ar ac an ath ah m_am ++ (sO G as_ s_as_ ++ (tO G an t_an ++ []))))) (Ans G out (va_A (mO G am as_ ar ac an ath ah m_am ++ (sO G as_ s_as_ ++ (tO G an t_an ++ []))) sz) (mO G am as_ ar ac an ath ah m_am ++ (sO G as_ s_as_ ++ (tO G an t_an ++ [])))) 0 0 (va_A (mO G am as_ ar ac an ath ah m_am ++ (sO G as_ s_as_ ++ (tO G an t_an ++ []))) sz) := by
  refine Met.into (by decide) (Nat.le_of_ble_eq_true rfl) ?_
  intro p e s m below meth c C hsz ls hl hw
  have hl : lv_has ls 5 [(0, .ref (am 99)), (1, .int x1)] := hl
  clear hsz
  generalize va_A (mO G am as_ ar ac an ath ah m_am ++ (sO G as_ s_as_ ++ (tO G an t_an ++ []))) sz = A at hw ⊢
  have hB_4 : ∀ (k4 : Int32 → Int32 → Option (Int32)) (hk4 : ∀ (v2 : Int32) (v3 : Int32), k4 v2 v3 = some out → ∀ (H : Heap) (locs : List Loc), Wd G A s H locs (mO G am as_ ar ac an ath ah m_am ++ (sO G as_ s_as_ ++ (tO G an t_an ++ []))) → ∀ ls : Array Slot, lv_has ls 5 [(0, .ref (am 99)), (1, .int x1), (2, .int v2), (3, .int v3)] → W p l e ({ frames := 0, cells := 0, slots := 0, locals := 0 }) s m [.ref (am 99), .int x1].toArray below meth c H locs 0 0 (MQ below (Ans G out A (mO G am as_ ar ac an ath ah m_am ++ (sO G as_ s_as_ ++ (tO G an t_an ++ [])))) [.ref (am 99), .int x1].toArray s 0 0 A) (F0 m 4 ls [])), ∀ (v2 : Int32) (v3 : Int32), b_X8_rankOf_4 m_am s_as_ t_an x1 k4 v2 v3 = some out → ∀ (H : Heap) (locs : List Loc), Wd G A s H locs (mO G am as_ ar ac an ath ah m_am ++ (sO G as_ s_as_ ++ (tO G an t_an ++ []))) → ∀ ls : Array Slot, lv_has ls 5 [(0, .ref (am 99)), (1, .int x1), (2, .int v2), (3, .int v3)] → W p l e ({ frames := 0, cells := 0, slots := 0, locals := 0 }) s m [.ref (am 99), .int x1].toArray below meth c H locs 0 0 (MQ below (Ans G out A (mO G am as_ ar ac an ath ah m_am ++ (sO G as_ s_as_ ++ (tO G an t_an ++ [])))) [.ref (am 99), .int x1].toArray s 0 0 A) (F0 m 4 ls []) := by
    intro k4 hk4 v2 v3 hf H locs hw ls hl
    unfold b_X8_rankOf_4 at hf
    refine r_iload0 C hl 3 rfl dX8_rankOf_4 ?_
    refine r_aload0 C hl 0 rfl dX8_rankOf_5 ?_
    refine r_get C hw _ (gx_h mO_o) 6 fl_X8_16 rfl dX8_rankOf_6 ?_
    refine r_get C hw _ (gx_t (gx_h sO_o)) 3 fl_X8_96 rfl dX8_rankOf_9 ?_
    refine lv_icmp_ge (tgt := 68) C.1 C.2.1 dX8_rankOf_12 (by decide) (fun hc => ?_) (fun hc => ?_)
    · replace hf := ifp hf hc
      refine r_iload0 C hl 2 rfl dX8_rankOf_68 ?_
      exact fin_i C hw (Option.some.inj hf) (fun o => o) (fun o => (mO G am as_ ar ac an ath ah m_am ++ (sO G as_ s_as_ ++ (tO G an t_an ++ [])))) rfl rfl dX8_rankOf_69
    · replace hf := ifn hf hc
      refine r_aload0 C hl 0 rfl dX8_rankOf_15 ?_
      refine r_get C hw _ (gx_h mO_o) 9 fl_X8_37 rfl dX8_rankOf_16 ?_
      refine r_get C hw _ (gx_t (gx_t (gx_h tO_o))) 1 fl_X8_151 rfl dX8_rankOf_19 ?_
      refine r_iload0 C hl 3 rfl dX8_rankOf_22 ?_
      obtain ⟨v1_, e1, hf⟩ := bx hf
      refine r_iald C hw _ (gx_t (gx_t (gx_h tO_g1))) e1 dX8_rankOf_23 ?_
      refine r_istore C hl [(4, .int v1_), (0, .ref (am 99)), (1, .int x1), (2, .int v2), (3, .int v3)] (by decide) rfl dX8_rankOf_24 (fun ls hl => ?_)
      refine r_iload C hl 0 rfl dX8_rankOf_26 ?_
      refine r_aload0 C hl 1 rfl dX8_rankOf_28 ?_
      refine r_get C hw _ (gx_h mO_o) 9 fl_X8_37 rfl dX8_rankOf_29 ?_
      refine r_get C hw _ (gx_t (gx_t (gx_h tO_o))) 1 fl_X8_151 rfl dX8_rankOf_32 ?_
      refine r_iload0 C hl 2 rfl dX8_rankOf_35 ?_
      obtain ⟨v2_, e2, hf⟩ := bx hf
      refine r_iald C hw _ (gx_t (gx_t (gx_h tO_g1))) e2 dX8_rankOf_36 ?_
      refine lv_icmp_lt (tgt := 59) C.1 C.2.1 dX8_rankOf_37 (by decide) (fun hc => ?_) (fun hc => ?_)
      · replace hf := ifp hf hc
        refine r_iinc C hl 3 (v2 + 1) [(2, .int (v2 + 1)), (4, .int v1_), (0, .ref (am 99)), (1, .int x1), (3, .int v3)] rfl (iinc_e (by decide)) (by decide) rfl dX8_rankOf_59 (fun ls hl => ?_)
        refine r_iinc C hl 4 (v3 + 1) [(3, .int (v3 + 1)), (2, .int (v2 + 1)), (4, .int v1_), (0, .ref (am 99)), (1, .int x1)] rfl (iinc_e (by decide)) (by decide) rfl dX8_rankOf_62 (fun ls hl => ?_)
        refine lv_goto (tgt := 4) C.1 C.2.1 dX8_rankOf_65 (by decide) ?_
        exact hk4 (v2 + 1) (v3 + 1) hf _ _ hw _ (lv_sub hl [3, 4, 1, 0] rfl)
      · replace hf := ifn hf hc
        refine r_iload C hl 0 rfl dX8_rankOf_40 ?_
        refine r_aload0 C hl 1 rfl dX8_rankOf_42 ?_
        refine r_get C hw _ (gx_h mO_o) 9 fl_X8_37 rfl dX8_rankOf_43 ?_
        refine r_get C hw _ (gx_t (gx_t (gx_h tO_o))) 1 fl_X8_151 rfl dX8_rankOf_46 ?_
        refine r_iload0 C hl 2 rfl dX8_rankOf_49 ?_
        obtain ⟨v3_, e3, hf⟩ := bx hf
        refine r_iald C hw _ (gx_t (gx_t (gx_h tO_g1))) e3 dX8_rankOf_50 ?_
        refine lv_icmp_ne (tgt := 62) C.1 C.2.1 dX8_rankOf_51 (by decide) (fun hc => ?_) (fun hc => ?_)
        · replace hf := ifn hf hc
          refine r_iinc C hl 4 (v3 + 1) [(3, .int (v3 + 1)), (4, .int v1_), (0, .ref (am 99)), (1, .int x1), (2, .int v2)] rfl (iinc_e (by decide)) (by decide) rfl dX8_rankOf_62 (fun ls hl => ?_)
          refine lv_goto (tgt := 4) C.1 C.2.1 dX8_rankOf_65 (by decide) ?_
          exact hk4 v2 (v3 + 1) hf _ _ hw _ (lv_sub hl [2, 3, 4, 0] rfl)
        · replace hf := ifp hf hc
          refine r_iload0 C hl 4 rfl dX8_rankOf_54 ?_
          refine r_iload0 C hl 2 rfl dX8_rankOf_55 ?_
          refine lv_icmp_ge (tgt := 62) C.1 C.2.1 dX8_rankOf_56 (by decide) (fun hc => ?_) (fun hc => ?_)
          · replace hf := ifp hf hc
            refine r_iinc C hl 4 (v3 + 1) [(3, .int (v3 + 1)), (4, .int v1_), (0, .ref (am 99)), (1, .int x1), (2, .int v2)] rfl (iinc_e (by decide)) (by decide) rfl dX8_rankOf_62 (fun ls hl => ?_)
            refine lv_goto (tgt := 4) C.1 C.2.1 dX8_rankOf_65 (by decide) ?_
            exact hk4 v2 (v3 + 1) hf _ _ hw _ (lv_sub hl [2, 3, 4, 0] rfl)
          · replace hf := ifn hf hc
            refine r_iinc C hl 3 (v2 + 1) [(2, .int (v2 + 1)), (4, .int v1_), (0, .ref (am 99)), (1, .int x1), (3, .int v3)] rfl (iinc_e (by decide)) (by decide) rfl dX8_rankOf_59 (fun ls hl => ?_)
            refine r_iinc C hl 4 (v3 + 1) [(3, .int (v3 + 1)), (2, .int (v2 + 1)), (4, .int v1_), (0, .ref (am 99)), (1, .int x1)] rfl (iinc_e (by decide)) (by decide) rfl dX8_rankOf_62 (fun ls hl => ?_)
            refine lv_goto (tgt := 4) C.1 C.2.1 dX8_rankOf_65 (by decide) ?_
            exact hk4 (v2 + 1) (v3 + 1) hf _ _ hw _ (lv_sub hl [3, 4, 1, 0] rfl)
  have hL_4 : ∀ n : Nat, ∀ (v2 : Int32) (v3 : Int32), L_X8_rankOf_4 m_am s_as_ t_an x1  n v2 v3 = some out → ∀ (H : Heap) (locs : List Loc), Wd G A s H locs (mO G am as_ ar ac an ath ah m_am ++ (sO G as_ s_as_ ++ (tO G an t_an ++ []))) → ∀ ls : Array Slot, lv_has ls 5 [(0, .ref (am 99)), (1, .int x1), (2, .int v2), (3, .int v3)] → W p l e ({ frames := 0, cells := 0, slots := 0, locals := 0 }) s m [.ref (am 99), .int x1].toArray below meth c H locs 0 0 (MQ below (Ans G out A (mO G am as_ ar ac an ath ah m_am ++ (sO G as_ s_as_ ++ (tO G an t_an ++ [])))) [.ref (am 99), .int x1].toArray s 0 0 A) (F0 m 4 ls []) := by
    intro  n
    induction n with
    | zero => intro v2 v3 hf; cases hf
    | succ n ih => exact hB_4 _ ih
  unfold f_X8_rankOf at hf
  refine lv_iconst (v := 0) C.1 C.2.1 dX8_rankOf_0 (by decide) ?_
  refine r_istore0 C hl [(2, .int 0), (0, .ref (am 99)), (1, .int x1)] (by decide) rfl dX8_rankOf_1 (fun ls hl => ?_)
  refine lv_iconst (v := 0) C.1 C.2.1 dX8_rankOf_2 (by decide) ?_
  refine r_istore0 C hl [(3, .int 0), (2, .int 0), (0, .ref (am 99)), (1, .int x1)] (by decide) rfl dX8_rankOf_3 (fun ls hl => ?_)
  exact hL_4  FU 0 0 hf _ _ hw _ (lv_sub hl [2, 3, 1, 0] rfl)
set_option maxHeartbeats 4000000 in
set_option maxRecDepth 100000 in
theorem c_X8_thinkOfPool (l : Launch) (G : GG) (am : Nat → Nat) (as_ : Nat → Nat) (ar : Nat → Nat) (ac : Nat → Nat) (an : Nat → Nat) (ath : Nat → Nat) (ah : Nat → Nat) (sz : Nat) (m_am : Pic) (t_an : Pic) (p_an : Pic) (p_ath : Pic) (z_an : Pic) (z_ath : Pic) (x1 : Int32) (out : Pic × Pic) (hf : f_X8_thinkOfPool m_am t_an p_an p_ath z_an z_ath x1 = some out) : Met l yX8_thinkOfPool (.code yX8_thinkOfPool cX8_thinkOfPool 2 none :: BT) ({ frames := 5, cells := 0, slots := 0, locals := 113 }) (va_Pc [.ref (am 99), .int x1] (PreW G sz (mO G am as_ ar ac an ath ah m_am ++ (tO G an t_an ++ (pO G an p_an ++ (pO G ath p_ath ++ (zO G an z_an ++ (zO G ath z_ath ++ [])))))))) (Don G (va_A (mO G am as_ ar ac an ath ah m_am ++ (tO G an t_an ++ (pO G an p_an ++ (pO G ath p_ath ++ (zO G an z_an ++ (zO G ath z_ath ++ [])))))) sz) (mO G am as_ ar ac an ath ah m_am ++ (tO G an t_an ++ (pO G an p_an ++ (pO G ath out.1 ++ (zO G an z_an ++ (zO G ath out.2 ++ []))))))) 0 0 (va_A (mO G am as_ ar ac an ath ah m_am ++ (tO G an t_an ++ (pO G an p_an ++ (pO G ath p_ath ++ (zO G an z_an ++ (zO G ath z_ath ++ [])))))) sz) := by
  refine Met.into (by decide) (Nat.le_of_ble_eq_true rfl) ?_
  intro p e s m below meth c C hsz ls hl hw
  have hl : lv_has ls 2 [(0, .ref (am 99)), (1, .int x1)] := hl
  clear hsz
  generalize va_A (mO G am as_ ar ac an ath ah m_am ++ (tO G an t_an ++ (pO G an p_an ++ (pO G ath p_ath ++ (zO G an z_an ++ (zO G ath z_ath ++ [])))))) sz = A at hw ⊢
  unfold f_X8_thinkOfPool at hf
  refine r_aload0 C hl 0 rfl dX8_thinkOfPool_0 ?_
  refine r_get C hw _ (gx_h mO_o) 10 fl_X8_44 rfl dX8_thinkOfPool_1 ?_
  refine r_aload0 C hl 0 rfl dX8_thinkOfPool_4 ?_
  refine r_get C hw _ (gx_h mO_o) 9 fl_X8_37 rfl dX8_thinkOfPool_5 ?_
  refine r_get C hw _ (gx_t (gx_h tO_o)) 2 fl_X8_105 rfl dX8_thinkOfPool_8 ?_
  obtain ⟨u1, e1, hf⟩ := bx hf
  refine r_callVv (ws' := (mO G am as_ ar ac an ath ah m_am ++ (tO G an t_an ++ (pO G an p_an ++ (pO G ath u1.1 ++ (zO G an z_an ++ (zO G ath u1.2 ++ []))))))) (As := [.ref (an 99)]) (rest := []) C hw hl.1 kX3_copyFrom ml_X8_215 (c_X3_copyFrom l G ath an _ p_an p_ath z_an z_ath u1 e1) (CutX.skip (CutX.skip (CutX.take pO_f (CutX.take pO_f (CutX.take zO_f (CutX.take zO_f CutX.none)))))) _ (gx_t (gx_t (gx_t (gx_h pO_o)))) rfl ⟨rfl, rfl⟩ ⟨Nat.le_of_ble_eq_true rfl, Nat.le_of_ble_eq_true rfl⟩ rfl ⟨Nat.zero_le _, Nat.zero_le _⟩ rfl (Nat.le_of_ble_eq_true rfl) dX8_thinkOfPool_11 (fun H locs hw => ?_)
  refine r_iload0 C hl 1 rfl dX8_thinkOfPool_14 ?_
  refine lv_if_eq (tgt := 26) C.1 C.2.1 dX8_thinkOfPool_15 (by decide) (fun hc => ?_) (fun hc => ?_)
  · replace hf := ifp hf hc
    exact fin_v C hw (Option.some.inj hf) (fun o => (mO G am as_ ar ac an ath ah m_am ++ (tO G an t_an ++ (pO G an p_an ++ (pO G ath o.1 ++ (zO G an z_an ++ (zO G ath o.2 ++ []))))))) rfl dX8_thinkOfPool_26
  · replace hf := ifn hf hc
    refine r_aload0 C hl 0 rfl dX8_thinkOfPool_18 ?_
    refine r_get C hw _ (gx_h mO_o) 10 fl_X8_44 rfl dX8_thinkOfPool_19 ?_
    obtain ⟨u2, e2, hf⟩ := bx hf
    refine r_callVi (ws' := (mO G am as_ ar ac an ath ah m_am ++ (tO G an t_an ++ (pO G an p_an ++ (pO G ath u2.2.1 ++ (zO G an z_an ++ (zO G ath u2.2.2 ++ []))))))) (As := []) (rest := []) C hw hl.1 kX3_compactAll ml_X8_219 (c_X3_compactAll l G ath _ u1.1 u1.2 u2 e2) (CutX.skip (CutX.skip (CutX.skip (CutX.take pO_f (CutX.skip (CutX.take zO_f CutX.none)))))) _ (gx_t (gx_t (gx_t (gx_h pO_o)))) rfl ⟨rfl, rfl⟩ ⟨Nat.le_of_ble_eq_true rfl, Nat.le_of_ble_eq_true rfl⟩ rfl ⟨Nat.zero_le _, Nat.zero_le _⟩ rfl (Nat.le_of_ble_eq_true rfl) dX8_thinkOfPool_22 (fun H locs hw => ?_)
    refine lv_pop C.1 C.2.1 dX8_thinkOfPool_25 rfl ?_
    exact fin_v C hw (Option.some.inj hf) (fun o => (mO G am as_ ar ac an ath ah m_am ++ (tO G an t_an ++ (pO G an p_an ++ (pO G ath o.1 ++ (zO G an z_an ++ (zO G ath o.2 ++ []))))))) rfl dX8_thinkOfPool_26
set_option maxHeartbeats 4000000 in
set_option maxRecDepth 100000 in
theorem c_X8_thinkOfStoring (l : Launch) (G : GG) (am : Nat → Nat) (as_ : Nat → Nat) (ar : Nat → Nat) (ac : Nat → Nat) (an : Nat → Nat) (ath : Nat → Nat) (ah : Nat → Nat) (sz : Nat) (m_am : Pic) (t_an : Pic) (p_an : Pic) (p_ath : Pic) (z_an : Pic) (z_ath : Pic) (e_an : Pic) (x1 : Int32) (x2 : Int32) (out : Pic × Pic) (hf : f_X8_thinkOfStoring m_am t_an p_an p_ath z_an z_ath e_an x1 x2 = some out) : Met l yX8_thinkOfStoring (.code yX8_thinkOfStoring cX8_thinkOfStoring 3 none :: BT) ({ frames := 5, cells := 0, slots := 0, locals := 117 }) (va_Pc [.ref (am 99), .int x1, .int x2] (PreW G sz (mO G am as_ ar ac an ath ah m_am ++ (tO G an t_an ++ (pO G an p_an ++ (pO G ath p_ath ++ (zO G an z_an ++ (zO G ath z_ath ++ (eO G an e_an ++ []))))))))) (Don G (va_A (mO G am as_ ar ac an ath ah m_am ++ (tO G an t_an ++ (pO G an p_an ++ (pO G ath p_ath ++ (zO G an z_an ++ (zO G ath z_ath ++ (eO G an e_an ++ []))))))) sz) (mO G am as_ ar ac an ath ah m_am ++ (tO G an t_an ++ (pO G an p_an ++ (pO G ath out.1 ++ (zO G an z_an ++ (zO G ath out.2 ++ (eO G an e_an ++ [])))))))) 0 0 (va_A (mO G am as_ ar ac an ath ah m_am ++ (tO G an t_an ++ (pO G an p_an ++ (pO G ath p_ath ++ (zO G an z_an ++ (zO G ath z_ath ++ (eO G an e_an ++ []))))))) sz) := by
  refine Met.into (by decide) (Nat.le_of_ble_eq_true rfl) ?_
  intro p e s m below meth c C hsz ls hl hw
  have hl : lv_has ls 3 [(0, .ref (am 99)), (1, .int x1), (2, .int x2)] := hl
  clear hsz
  generalize va_A (mO G am as_ ar ac an ath ah m_am ++ (tO G an t_an ++ (pO G an p_an ++ (pO G ath p_ath ++ (zO G an z_an ++ (zO G ath z_ath ++ (eO G an e_an ++ []))))))) sz = A at hw ⊢
  unfold f_X8_thinkOfStoring at hf
  refine r_aload0 C hl 0 rfl dX8_thinkOfStoring_0 ?_
  refine r_get C hw _ (gx_h mO_o) 10 fl_X8_44 rfl dX8_thinkOfStoring_1 ?_
  refine r_aload0 C hl 0 rfl dX8_thinkOfStoring_4 ?_
  refine r_get C hw _ (gx_h mO_o) 9 fl_X8_37 rfl dX8_thinkOfStoring_5 ?_
  refine r_get C hw _ (gx_t (gx_h tO_o)) 2 fl_X8_105 rfl dX8_thinkOfStoring_8 ?_
  obtain ⟨u1, e1, hf⟩ := bx hf
  refine r_callVv (ws' := (mO G am as_ ar ac an ath ah m_am ++ (tO G an t_an ++ (pO G an p_an ++ (pO G ath u1.1 ++ (zO G an z_an ++ (zO G ath u1.2 ++ (eO G an e_an ++ [])))))))) (As := [.ref (an 99)]) (rest := []) C hw hl.1 kX3_copyFrom ml_X8_215 (c_X3_copyFrom l G ath an _ p_an p_ath z_an z_ath u1 e1) (CutX.skip (CutX.skip (CutX.take pO_f (CutX.take pO_f (CutX.take zO_f (CutX.take zO_f CutX.none)))))) _ (gx_t (gx_t (gx_t (gx_h pO_o)))) rfl ⟨rfl, rfl⟩ ⟨Nat.le_of_ble_eq_true rfl, Nat.le_of_ble_eq_true rfl⟩ rfl ⟨Nat.zero_le _, Nat.zero_le _⟩ rfl (Nat.le_of_ble_eq_true rfl) dX8_thinkOfStoring_11 (fun H locs hw => ?_)
  refine r_aload0 C hl 0 rfl dX8_thinkOfStoring_14 ?_
  refine r_get C hw _ (gx_h mO_o) 10 fl_X8_44 rfl dX8_thinkOfStoring_15 ?_
  refine r_iload0 C hl 1 rfl dX8_thinkOfStoring_18 ?_
  refine r_aload0 C hl 0 rfl dX8_thinkOfStoring_19 ?_
  refine r_get C hw _ (gx_h mO_o) 9 fl_X8_37 rfl dX8_thinkOfStoring_20 ?_
  refine r_get C hw _ (gx_t (gx_h tO_o)) 0 fl_X8_148 rfl dX8_thinkOfStoring_23 ?_
  refine r_iload0 C hl 2 rfl dX8_thinkOfStoring_26 ?_
  refine lv_bipush (v := 16) C.1 C.2.1 dX8_thinkOfStoring_27 (by decide) ?_
  refine lv_imul C.1 C.2.1 dX8_thinkOfStoring_29 ?_
  refine r_aload0 C hl 0 rfl dX8_thinkOfStoring_30 ?_
  refine r_get C hw _ (gx_h mO_o) 9 fl_X8_37 rfl dX8_thinkOfStoring_31 ?_
  refine r_get C hw _ (gx_t (gx_h tO_o)) 1 fl_X8_151 rfl dX8_thinkOfStoring_34 ?_
  refine r_iload0 C hl 2 rfl dX8_thinkOfStoring_37 ?_
  obtain ⟨v2_, e2, hf⟩ := bx hf
  refine r_iald C hw _ (gx_t (gx_h tO_g1)) e2 dX8_thinkOfStoring_38 ?_
  obtain ⟨u3, e3, hf⟩ := bx hf
  refine r_callVv (ws' := (mO G am as_ ar ac an ath ah m_am ++ (tO G an t_an ++ (pO G an p_an ++ (pO G ath u3.1 ++ (zO G an z_an ++ (zO G ath u3.2 ++ (eO G an e_an ++ [])))))))) (As := [.int x1, .ref (an 200), .int (x2 * 16), .int v2_]) (rest := []) C hw hl.1 kX3_storePage ml_X8_328 (c_X3_storePage l G ath an _ u1.1 u1.2 e_an x1 (x2 * 16) v2_ u3 e3) (CutX.skip (CutX.skip (CutX.skip (CutX.take pO_f (CutX.skip (CutX.take zO_f (CutX.take eO_f CutX.none))))))) _ (gx_t (gx_t (gx_t (gx_h pO_o)))) rfl ⟨rfl, rfl⟩ ⟨Nat.le_of_ble_eq_true rfl, Nat.le_of_ble_eq_true rfl⟩ rfl ⟨Nat.zero_le _, Nat.zero_le _⟩ rfl (Nat.le_of_ble_eq_true rfl) dX8_thinkOfStoring_39 (fun H locs hw => ?_)
  exact fin_v C hw (Option.some.inj hf) (fun o => (mO G am as_ ar ac an ath ah m_am ++ (tO G an t_an ++ (pO G an p_an ++ (pO G ath o.1 ++ (zO G an z_an ++ (zO G ath o.2 ++ (eO G an e_an ++ [])))))))) rfl dX8_thinkOfStoring_42
set_option maxHeartbeats 4000000 in
set_option maxRecDepth 100000 in
theorem c_X8_perform (l : Launch) (G : GG) (am : Nat → Nat) (as_ : Nat → Nat) (ar : Nat → Nat) (ac : Nat → Nat) (an : Nat → Nat) (ath : Nat → Nat) (ah : Nat → Nat) (ap : Nat → Nat) (sz : Nat) (m_am : Pic) (s_as_ : Pic) (t_an : Pic) (p_ap : Pic) (z_ap : Pic) (e_an : Pic) (x2 : Int32) (out : Pic × Pic) (hf : f_X8_perform m_am s_as_ t_an p_ap z_ap e_an x2 = some out) : Met l yX8_perform (.code yX8_perform cX8_perform 5 none :: BT) ({ frames := 5, cells := 0, slots := 0, locals := 117 }) (va_Pc [.ref (am 99), .ref (ap 99), .int x2] (PreW G sz (mO G am as_ ar ac an ath ah m_am ++ (sO G as_ s_as_ ++ (tO G an t_an ++ (pO G ap p_ap ++ (zO G ap z_ap ++ (eO G an e_an ++ [])))))))) (Don G (va_A (mO G am as_ ar ac an ath ah m_am ++ (sO G as_ s_as_ ++ (tO G an t_an ++ (pO G ap p_ap ++ (zO G ap z_ap ++ (eO G an e_an ++ [])))))) sz) (mO G am as_ ar ac an ath ah m_am ++ (sO G as_ s_as_ ++ (tO G an t_an ++ (pO G ap out.1 ++ (zO G ap out.2 ++ (eO G an e_an ++ []))))))) 0 0 (va_A (mO G am as_ ar ac an ath ah m_am ++ (sO G as_ s_as_ ++ (tO G an t_an ++ (pO G ap p_ap ++ (zO G ap z_ap ++ (eO G an e_an ++ [])))))) sz) := by
  refine Met.into (by decide) (Nat.le_of_ble_eq_true rfl) ?_
  intro p e s m below meth c C hsz ls hl hw
  have hl : lv_has ls 5 [(0, .ref (am 99)), (1, .ref (ap 99)), (2, .int x2)] := hl
  clear hsz
  generalize va_A (mO G am as_ ar ac an ath ah m_am ++ (sO G as_ s_as_ ++ (tO G an t_an ++ (pO G ap p_ap ++ (zO G ap z_ap ++ (eO G an e_an ++ [])))))) sz = A at hw ⊢
  unfold f_X8_perform at hf
  refine r_aload0 C hl 0 rfl dX8_perform_0 ?_
  refine r_get C hw _ (gx_h mO_o) 6 fl_X8_16 rfl dX8_perform_1 ?_
  refine r_get C hw _ (gx_t (gx_h sO_o)) 7 fl_X8_318 rfl dX8_perform_4 ?_
  refine r_iload0 C hl 2 rfl dX8_perform_7 ?_
  obtain ⟨v1_, e1, hf⟩ := bx hf
  refine r_iald C hw _ (gx_t (gx_h sO_g7)) e1 dX8_perform_8 ?_
  refine r_istore0 C hl [(3, .int v1_), (0, .ref (am 99)), (1, .ref (ap 99)), (2, .int x2)] (by decide) rfl dX8_perform_9 (fun ls hl => ?_)
  refine r_aload0 C hl 1 rfl dX8_perform_10 ?_
  refine r_get C hw _ (gx_h mO_o) 6 fl_X8_16 rfl dX8_perform_11 ?_
  refine r_get C hw _ (gx_t (gx_h sO_o)) 8 fl_X8_321 rfl dX8_perform_14 ?_
  refine r_iload0 C hl 3 rfl dX8_perform_17 ?_
  obtain ⟨v2_, e2, hf⟩ := bx hf
  refine r_iald C hw _ (gx_t (gx_h sO_g8)) e2 dX8_perform_18 ?_
  refine r_istore C hl [(4, .int v2_), (3, .int v1_), (0, .ref (am 99)), (1, .ref (ap 99)), (2, .int x2)] (by decide) rfl dX8_perform_19 (fun ls hl => ?_)
  refine r_aload0 C hl 2 rfl dX8_perform_21 ?_
  refine r_get C hw _ (gx_h mO_o) 6 fl_X8_16 rfl dX8_perform_22 ?_
  refine r_get C hw _ (gx_t (gx_h sO_o)) 6 fl_X8_315 rfl dX8_perform_25 ?_
  refine r_iload0 C hl 4 rfl dX8_perform_28 ?_
  obtain ⟨v3_, e3, hf⟩ := bx hf
  refine r_iald C hw _ (gx_t (gx_h sO_g6)) e3 dX8_perform_29 ?_
  refine lv_iconst (v := 1) C.1 C.2.1 dX8_perform_30 (by decide) ?_
  refine lv_icmp_ne (tgt := 42) C.1 C.2.1 dX8_perform_31 (by decide) (fun hc => ?_) (fun hc => ?_)
  · replace hf := ifn hf hc
    refine r_aload0 C hl 2 rfl dX8_perform_42 ?_
    refine r_get C hw _ (gx_h mO_o) 6 fl_X8_16 rfl dX8_perform_43 ?_
    refine r_get C hw _ (gx_t (gx_h sO_o)) 6 fl_X8_315 rfl dX8_perform_46 ?_
    refine r_iload0 C hl 4 rfl dX8_perform_49 ?_
    obtain ⟨v4_, e4, hf⟩ := bx hf
    refine r_iald C hw _ (gx_t (gx_h sO_g6)) e4 dX8_perform_50 ?_
    refine lv_iconst (v := 2) C.1 C.2.1 dX8_perform_51 (by decide) ?_
    refine lv_icmp_ne (tgt := 63) C.1 C.2.1 dX8_perform_52 (by decide) (fun hc => ?_) (fun hc => ?_)
    · replace hf := ifn hf hc
      refine r_aload0 C hl 2 rfl dX8_perform_63 ?_
      refine r_iload C hl 0 rfl dX8_perform_64 ?_
      obtain ⟨u5, e5, hf⟩ := bx hf
      refine r_callVi (ws' := (mO G am as_ ar ac an ath ah m_am ++ (sO G as_ s_as_ ++ (tO G an t_an ++ (pO G ap p_ap ++ (zO G ap z_ap ++ (eO G an e_an ++ []))))))) (As := [.int v2_]) (rest := []) C hw hl.1 kX8_noData ml_X8_141 (c_X8_noData l G am as_ ar ac an ath ah _ m_am s_as_ v2_ u5 e5) (CutX.take mO_f (CutX.take sO_f CutX.none)) _ (gx_h mO_o) rfl ⟨rfl, rfl⟩ ⟨Nat.le_of_ble_eq_true rfl, Nat.le_of_ble_eq_true rfl⟩ rfl ⟨Nat.zero_le _, Nat.zero_le _⟩ rfl (Nat.le_of_ble_eq_true rfl) dX8_perform_66 (fun H locs hw => ?_)
      refine lv_if_ne (tgt := 99) C.1 C.2.1 dX8_perform_69 (by decide) (fun hc => ?_) (fun hc => ?_)
      · replace hf := ifn hf hc
        exact fin_v C hw (Option.some.inj hf) (fun o => (mO G am as_ ar ac an ath ah m_am ++ (sO G as_ s_as_ ++ (tO G an t_an ++ (pO G ap o.1 ++ (zO G ap o.2 ++ (eO G an e_an ++ []))))))) rfl dX8_perform_99
      · replace hf := ifp hf hc
        refine r_aload0 C hl 3 rfl dX8_perform_72 ?_
        refine r_iload0 C hl 1 rfl dX8_perform_73 ?_
        refine r_aload0 C hl 2 rfl dX8_perform_74 ?_
        refine r_get C hw _ (gx_h mO_o) 9 fl_X8_37 rfl dX8_perform_75 ?_
        refine r_get C hw _ (gx_t (gx_t (gx_h tO_o))) 0 fl_X8_148 rfl dX8_perform_78 ?_
        refine r_iload C hl 0 rfl dX8_perform_81 ?_
        refine lv_bipush (v := 16) C.1 C.2.1 dX8_perform_83 (by decide) ?_
        refine lv_imul C.1 C.2.1 dX8_perform_85 ?_
        refine r_aload0 C hl 2 rfl dX8_perform_86 ?_
        refine r_get C hw _ (gx_h mO_o) 9 fl_X8_37 rfl dX8_perform_87 ?_
        refine r_get C hw _ (gx_t (gx_t (gx_h tO_o))) 1 fl_X8_151 rfl dX8_perform_90 ?_
        refine r_iload C hl 0 rfl dX8_perform_93 ?_
        obtain ⟨v6_, e6, hf⟩ := bx hf
        refine r_iald C hw _ (gx_t (gx_t (gx_h tO_g1))) e6 dX8_perform_95 ?_
        obtain ⟨u7, e7, hf⟩ := bx hf
        refine r_callVv (ws' := (mO G am as_ ar ac an ath ah m_am ++ (sO G as_ s_as_ ++ (tO G an t_an ++ (pO G ap u7.1 ++ (zO G ap u7.2 ++ (eO G an e_an ++ []))))))) (As := [.int v1_, .ref (an 200), .int (v2_ * 16), .int v6_]) (rest := []) C hw hl.1 kX3_storePage ml_X8_328 (c_X3_storePage l G ap an _ p_ap z_ap e_an v1_ (v2_ * 16) v6_ u7 e7) (CutX.skip (CutX.skip (CutX.skip (CutX.take pO_f (CutX.take zO_f (CutX.take eO_f CutX.none)))))) _ (gx_t (gx_t (gx_t (gx_h pO_o)))) rfl ⟨rfl, rfl⟩ ⟨Nat.le_of_ble_eq_true rfl, Nat.le_of_ble_eq_true rfl⟩ rfl ⟨Nat.zero_le _, Nat.zero_le _⟩ rfl (Nat.le_of_ble_eq_true rfl) dX8_perform_96 (fun H locs hw => ?_)
        exact fin_v C hw (Option.some.inj hf) (fun o => (mO G am as_ ar ac an ath ah m_am ++ (sO G as_ s_as_ ++ (tO G an t_an ++ (pO G ap o.1 ++ (zO G ap o.2 ++ (eO G an e_an ++ []))))))) rfl dX8_perform_99
    · replace hf := ifp hf hc
      refine r_aload0 C hl 3 rfl dX8_perform_55 ?_
      refine r_iload0 C hl 1 rfl dX8_perform_56 ?_
      obtain ⟨u8, e8, hf⟩ := bx hf
      refine r_callVv (ws' := (mO G am as_ ar ac an ath ah m_am ++ (sO G as_ s_as_ ++ (tO G an t_an ++ (pO G ap u8.1 ++ (zO G ap u8.2 ++ (eO G an e_an ++ []))))))) (As := [.int v1_]) (rest := []) C hw hl.1 kX3_dropPage ml_X8_335 (c_X3_dropPage l G ap _ p_ap z_ap v1_ u8 e8) (CutX.skip (CutX.skip (CutX.skip (CutX.take pO_f (CutX.take zO_f CutX.none))))) _ (gx_t (gx_t (gx_t (gx_h pO_o)))) rfl ⟨rfl, rfl⟩ ⟨Nat.le_of_ble_eq_true rfl, Nat.le_of_ble_eq_true rfl⟩ rfl ⟨Nat.zero_le _, Nat.zero_le _⟩ rfl (Nat.le_of_ble_eq_true rfl) dX8_perform_57 (fun H locs hw => ?_)
      refine lv_goto (tgt := 99) C.1 C.2.1 dX8_perform_60 (by decide) ?_
      exact fin_v C hw (Option.some.inj hf) (fun o => (mO G am as_ ar ac an ath ah m_am ++ (sO G as_ s_as_ ++ (tO G an t_an ++ (pO G ap o.1 ++ (zO G ap o.2 ++ (eO G an e_an ++ []))))))) rfl dX8_perform_99
  · replace hf := ifp hf hc
    refine r_aload0 C hl 3 rfl dX8_perform_34 ?_
    refine r_iload0 C hl 1 rfl dX8_perform_35 ?_
    obtain ⟨u9, e9, hf⟩ := bx hf
    refine r_callVv (ws' := (mO G am as_ ar ac an ath ah m_am ++ (sO G as_ s_as_ ++ (tO G an t_an ++ (pO G ap u9 ++ (zO G ap z_ap ++ (eO G an e_an ++ []))))))) (As := [.int v1_]) (rest := []) C hw hl.1 kX3_loadPage ml_X8_332 (c_X3_loadPage l G ap _ p_ap v1_ u9 e9) (CutX.skip (CutX.skip (CutX.skip (CutX.take pO_f CutX.none)))) _ (gx_t (gx_t (gx_t (gx_h pO_o)))) rfl ⟨rfl, rfl⟩ ⟨Nat.le_of_ble_eq_true rfl, Nat.le_of_ble_eq_true rfl⟩ rfl ⟨Nat.zero_le _, Nat.zero_le _⟩ rfl (Nat.le_of_ble_eq_true rfl) dX8_perform_36 (fun H locs hw => ?_)
    refine lv_goto (tgt := 99) C.1 C.2.1 dX8_perform_39 (by decide) ?_
    exact fin_v C hw (Option.some.inj hf) (fun o => (mO G am as_ ar ac an ath ah m_am ++ (sO G as_ s_as_ ++ (tO G an t_an ++ (pO G ap o.1 ++ (zO G ap o.2 ++ (eO G an e_an ++ []))))))) rfl dX8_perform_99
set_option maxHeartbeats 4000000 in
set_option maxRecDepth 100000 in
theorem c_X8_feed (l : Launch) (G : GG) (am : Nat → Nat) (as_ : Nat → Nat) (ar : Nat → Nat) (ac : Nat → Nat) (an : Nat → Nat) (ath : Nat → Nat) (ah : Nat → Nat) (sz : Nat) (m_am : Pic) (b_am : Pic) (x1 : Int32) (x2 : Int32) (x3 : Int32) (x4 : Int32) (x5 : Int32) (out : Int32 × Pic × Pic) (hf : f_X8_feed m_am b_am x1 x2 x3 x4 x5 = some out) : Met l yX8_feed (.code yX8_feed cX8_feed 6 (some .int) :: BT) ({ frames := 1, cells := 0, slots := 0, locals := 22 }) (va_Pc [.ref (am 99), .int x1, .int x2, .int x3, .int x4, .int x5] (PreW G sz (mO G am as_ ar ac an ath ah m_am ++ (bO G am b_am ++ [])))) (Ans G out.1 (va_A (mO G am as_ ar ac an ath ah m_am ++ (bO G am b_am ++ [])) sz) (mO G am as_ ar ac an ath ah out.2.1 ++ (bO G am out.2.2 ++ []))) 0 0 (va_A (mO G am as_ ar ac an ath ah m_am ++ (bO G am b_am ++ [])) sz) := by
  refine Met.into (by decide) (Nat.le_of_ble_eq_true rfl) ?_
  intro p e s m below meth c C hsz ls hl hw
  have hl : lv_has ls 6 [(0, .ref (am 99)), (1, .int x1), (2, .int x2), (3, .int x3), (4, .int x4), (5, .int x5)] := hl
  clear hsz
  generalize va_A (mO G am as_ ar ac an ath ah m_am ++ (bO G am b_am ++ [])) sz = A at hw ⊢
  unfold f_X8_feed at hf
  refine r_aload0 C hl 0 rfl dX8_feed_0 ?_
  refine r_get C hw _ (gx_h mO_o) 1 fl_X8_55 rfl dX8_feed_1 ?_
  refine lv_bipush (v := 20) C.1 C.2.1 dX8_feed_4 (by decide) ?_
  refine lv_iadd C.1 C.2.1 dX8_feed_6 ?_
  refine lv_sipush (v := 900) C.1 C.2.1 dX8_feed_7 (by decide) ?_
  refine lv_icmp_le (tgt := 15) C.1 C.2.1 dX8_feed_10 (by decide) (fun hc => ?_) (fun hc => ?_)
  · replace hf := ifp hf hc
    refine r_aload0 C hl 0 rfl dX8_feed_15 ?_
    refine r_iload0 C hl 1 rfl dX8_feed_16 ?_
    obtain ⟨u1, e1, hf⟩ := bx hf
    refine r_callVv (ws' := (mO G am as_ ar ac an ath ah u1.1 ++ (bO G am u1.2 ++ []))) (As := [.int x1]) (rest := []) C hw hl.1 kX8_feedNumber ml_X8_59 (c_X8_feedNumber l G am as_ ar ac an ath ah _ m_am b_am x1 u1 e1) (CutX.take mO_f (CutX.take bO_f CutX.none)) _ (gx_h mO_o) rfl ⟨rfl, rfl⟩ ⟨Nat.le_of_ble_eq_true rfl, Nat.le_of_ble_eq_true rfl⟩ rfl ⟨Nat.zero_le _, Nat.zero_le _⟩ rfl (Nat.le_of_ble_eq_true rfl) dX8_feed_17 (fun H locs hw => ?_)
    refine r_aload0 C hl 0 rfl dX8_feed_20 ?_
    refine r_iload0 C hl 2 rfl dX8_feed_21 ?_
    obtain ⟨u2, e2, hf⟩ := bx hf
    refine r_callVv (ws' := (mO G am as_ ar ac an ath ah u2.1 ++ (bO G am u2.2 ++ []))) (As := [.int x2]) (rest := []) C hw hl.1 kX8_feedNumber ml_X8_59 (c_X8_feedNumber l G am as_ ar ac an ath ah _ u1.1 u1.2 x2 u2 e2) (CutX.take mO_f (CutX.take bO_f CutX.none)) _ (gx_h mO_o) rfl ⟨rfl, rfl⟩ ⟨Nat.le_of_ble_eq_true rfl, Nat.le_of_ble_eq_true rfl⟩ rfl ⟨Nat.zero_le _, Nat.zero_le _⟩ rfl (Nat.le_of_ble_eq_true rfl) dX8_feed_22 (fun H locs hw => ?_)
    refine r_aload0 C hl 0 rfl dX8_feed_25 ?_
    refine r_iload0 C hl 3 rfl dX8_feed_26 ?_
    obtain ⟨u3, e3, hf⟩ := bx hf
    refine r_callVv (ws' := (mO G am as_ ar ac an ath ah u3.1 ++ (bO G am u3.2 ++ []))) (As := [.int x3]) (rest := []) C hw hl.1 kX8_feedNumber ml_X8_59 (c_X8_feedNumber l G am as_ ar ac an ath ah _ u2.1 u2.2 x3 u3 e3) (CutX.take mO_f (CutX.take bO_f CutX.none)) _ (gx_h mO_o) rfl ⟨rfl, rfl⟩ ⟨Nat.le_of_ble_eq_true rfl, Nat.le_of_ble_eq_true rfl⟩ rfl ⟨Nat.zero_le _, Nat.zero_le _⟩ rfl (Nat.le_of_ble_eq_true rfl) dX8_feed_27 (fun H locs hw => ?_)
    refine r_aload0 C hl 0 rfl dX8_feed_30 ?_
    refine r_iload C hl 4 rfl dX8_feed_31 ?_
    obtain ⟨u4, e4, hf⟩ := bx hf
    refine r_callVv (ws' := (mO G am as_ ar ac an ath ah u4.1 ++ (bO G am u4.2 ++ []))) (As := [.int x4]) (rest := []) C hw hl.1 kX8_feedNumber ml_X8_59 (c_X8_feedNumber l G am as_ ar ac an ath ah _ u3.1 u3.2 x4 u4 e4) (CutX.take mO_f (CutX.take bO_f CutX.none)) _ (gx_h mO_o) rfl ⟨rfl, rfl⟩ ⟨Nat.le_of_ble_eq_true rfl, Nat.le_of_ble_eq_true rfl⟩ rfl ⟨Nat.zero_le _, Nat.zero_le _⟩ rfl (Nat.le_of_ble_eq_true rfl) dX8_feed_33 (fun H locs hw => ?_)
    refine r_aload0 C hl 0 rfl dX8_feed_36 ?_
    refine r_iload C hl 5 rfl dX8_feed_37 ?_
    obtain ⟨u5, e5, hf⟩ := bx hf
    refine r_callVv (ws' := (mO G am as_ ar ac an ath ah u5.1 ++ (bO G am u5.2 ++ []))) (As := [.int x5]) (rest := []) C hw hl.1 kX8_feedNumber ml_X8_59 (c_X8_feedNumber l G am as_ ar ac an ath ah _ u4.1 u4.2 x5 u5 e5) (CutX.take mO_f (CutX.take bO_f CutX.none)) _ (gx_h mO_o) rfl ⟨rfl, rfl⟩ ⟨Nat.le_of_ble_eq_true rfl, Nat.le_of_ble_eq_true rfl⟩ rfl ⟨Nat.zero_le _, Nat.zero_le _⟩ rfl (Nat.le_of_ble_eq_true rfl) dX8_feed_39 (fun H locs hw => ?_)
    refine r_aload0 C hl 0 rfl dX8_feed_42 ?_
    refine r_get C hw _ (gx_h mO_o) 1 fl_X8_55 rfl dX8_feed_43 ?_
    exact fin_i C hw (Option.some.inj hf) (fun o => o.1) (fun o => (mO G am as_ ar ac an ath ah o.2.1 ++ (bO G am o.2.2 ++ []))) rfl rfl dX8_feed_46
  · replace hf := ifn hf hc
    refine lv_iconst (v := (-1)) C.1 C.2.1 dX8_feed_13 (by decide) ?_
    exact fin_i C hw (Option.some.inj hf) (fun o => o.1) (fun o => (mO G am as_ ar ac an ath ah o.2.1 ++ (bO G am o.2.2 ++ []))) rfl rfl dX8_feed_14
set_option maxHeartbeats 4000000 in
set_option maxRecDepth 100000 in
theorem c_X8_swap (l : Launch) (G : GG) (K : SK) (am : Nat → Nat) (as_ : Nat → Nat) (ar : Nat → Nat) (ac : Nat → Nat) (an : Nat → Nat) (ath : Nat → Nat) (ah : Nat → Nat) (ab : Nat → Nat) (at_ : Nat → Nat) (rg : Nat → Option Nat) (sz : Nat) (m_am : Pic) (r_ar : Pic) (b_am : Pic) (s_at_ : Pic) (c_ac : Pic) (h_ah : Pic) (t_an : Pic) (p_an : Pic) (z_an : Pic) (e_an : Pic) (x1 : Int32) (out : Int32 × Pic × Pic × Pic × Pic × Pic × Pic × Pic × Pic × Pic × Nat) (hf : f_X8_swap m_am r_ar b_am s_at_ c_ac h_ah t_an p_an z_an e_an x1 = some out) : Met l yX8_swap (.code yX8_swap cX8_swap 2 (some .int) :: BT) ({ frames := 9, cells := 0, slots := 0, locals := 198 }) (va_Pc [.ref (am 99), .int x1] (PreT G K sz (mO G am as_ ar ac an ath ah m_am ++ (rO G ar ab at_ r_ar ++ (bO G am b_am ++ (sO G at_ s_at_ ++ (cO G ac c_ac ++ (hO G ah rg h_ah ++ (tO G an t_an ++ (pO G an p_an ++ (zO G an z_an ++ (eO G an e_an ++ [])))))))))))) (Ans G out.1 (va_A (mO G am as_ ar ac an ath ah m_am ++ (rO G ar ab at_ r_ar ++ (bO G am b_am ++ (sO G at_ s_at_ ++ (cO G ac c_ac ++ (hO G ah rg h_ah ++ (tO G an t_an ++ (pO G an p_an ++ (zO G an z_an ++ (eO G an e_an ++ [])))))))))) sz) (mO G am (sel3 out.2.2.2.2.2.2.2.2.2.2 as_ as_ at_) ar ac an ath ah out.2.1 ++ (rO G ar (sel3 out.2.2.2.2.2.2.2.2.2.2 ab am am) (sel3 out.2.2.2.2.2.2.2.2.2.2 at_ at_ as_) out.2.2.1 ++ (bO G am b_am ++ (sO G at_ out.2.2.2.1 ++ (cO G ac out.2.2.2.2.1 ++ (hO G ah rg out.2.2.2.2.2.1 ++ (tO G an out.2.2.2.2.2.2.1 ++ (pO G an out.2.2.2.2.2.2.2.1 ++ (zO G an out.2.2.2.2.2.2.2.2.1 ++ (eO G an out.2.2.2.2.2.2.2.2.2.1 ++ []))))))))))) 0 0 (va_A (mO G am as_ ar ac an ath ah m_am ++ (rO G ar ab at_ r_ar ++ (bO G am b_am ++ (sO G at_ s_at_ ++ (cO G ac c_ac ++ (hO G ah rg h_ah ++ (tO G an t_an ++ (pO G an p_an ++ (zO G an z_an ++ (eO G an e_an ++ [])))))))))) sz) := by
  refine Met.intoT (by decide) (Nat.le_of_ble_eq_true rfl) ?_
  intro p e s m below meth c C hsz hq ls hl hw
  have hl : lv_has ls 2 [(0, .ref (am 99)), (1, .int x1)] := hl
  clear hsz
  generalize va_A (mO G am as_ ar ac an ath ah m_am ++ (rO G ar ab at_ r_ar ++ (bO G am b_am ++ (sO G at_ s_at_ ++ (cO G ac c_ac ++ (hO G ah rg h_ah ++ (tO G an t_an ++ (pO G an p_an ++ (zO G an z_an ++ (eO G an e_an ++ [])))))))))) sz = A at hw hq ⊢
  have hB_12 : ∀ (m_am : Pic) (r_ar : Pic) (s_at_ : Pic) (c_ac : Pic) (h_ah : Pic) (t_an : Pic) (p_an : Pic) (z_an : Pic) (e_an : Pic), b_X8_swap_12 b_am x1  m_am r_ar s_at_ c_ac h_ah t_an p_an z_an e_an = some out → ∀ (H : Heap) (locs : List Loc), Wd G A s H locs (mO G am as_ ar ac an ath ah m_am ++ (rO G ar ab at_ r_ar ++ (bO G am b_am ++ (sO G at_ s_at_ ++ (cO G ac c_ac ++ (hO G ah rg h_ah ++ (tO G an t_an ++ (pO G an p_an ++ (zO G an z_an ++ (eO G an e_an ++ [])))))))))) → ∀ ls : Array Slot, lv_has ls 2 [(0, .ref (am 99))] → W p l e ({ frames := 9, cells := 0, slots := 0, locals := 198 }) s m [.ref (am 99), .int x1].toArray below meth c H locs 0 0 (MQ below (Ans G out.1 A (mO G am (sel3 out.2.2.2.2.2.2.2.2.2.2 as_ as_ at_) ar ac an ath ah out.2.1 ++ (rO G ar (sel3 out.2.2.2.2.2.2.2.2.2.2 ab am am) (sel3 out.2.2.2.2.2.2.2.2.2.2 at_ at_ as_) out.2.2.1 ++ (bO G am b_am ++ (sO G at_ out.2.2.2.1 ++ (cO G ac out.2.2.2.2.1 ++ (hO G ah rg out.2.2.2.2.2.1 ++ (tO G an out.2.2.2.2.2.2.1 ++ (pO G an out.2.2.2.2.2.2.2.1 ++ (zO G an out.2.2.2.2.2.2.2.2.1 ++ (eO G an out.2.2.2.2.2.2.2.2.2.1 ++ []))))))))))) [.ref (am 99), .int x1].toArray s 0 0 A) (F0 m 12 ls []) := by
    intro m_am r_ar s_at_ c_ac h_ah t_an p_an z_an e_an hf H locs hw ls hl
    unfold b_X8_swap_12 at hf
    refine r_aload0 C hl 0 rfl dX8_swap_12 ?_
    refine lv_iconst (v := 2) C.1 C.2.1 dX8_swap_13 (by decide) ?_
    obtain ⟨u1, e1, hf⟩ := bx hf
    refine r_callVi (ws' := (mO G am as_ ar ac an ath ah u1.2 ++ (rO G ar ab at_ r_ar ++ (bO G am b_am ++ (sO G at_ s_at_ ++ (cO G ac c_ac ++ (hO G ah rg h_ah ++ (tO G an t_an ++ (pO G an p_an ++ (zO G an z_an ++ (eO G an e_an ++ []))))))))))) (As := [.int 2]) (rest := []) C hw hl.1 kX8_refuse ml_X8_63 (c_X8_refuse l G am as_ ar ac an ath ah _ m_am 2 u1 e1) (CutX.take mO_f CutX.none) _ (gx_h mO_o) rfl ⟨rfl, rfl⟩ ⟨Nat.le_of_ble_eq_true rfl, Nat.le_of_ble_eq_true rfl⟩ rfl ⟨Nat.zero_le _, Nat.zero_le _⟩ rfl (Nat.le_of_ble_eq_true rfl) dX8_swap_14 (fun H locs hw => ?_)
    exact fin_i C hw (Option.some.inj hf) (fun o => o.1) (fun o => (mO G am (sel3 o.2.2.2.2.2.2.2.2.2.2 as_ as_ at_) ar ac an ath ah o.2.1 ++ (rO G ar (sel3 o.2.2.2.2.2.2.2.2.2.2 ab am am) (sel3 o.2.2.2.2.2.2.2.2.2.2 at_ at_ as_) o.2.2.1 ++ (bO G am b_am ++ (sO G at_ o.2.2.2.1 ++ (cO G ac o.2.2.2.2.1 ++ (hO G ah rg o.2.2.2.2.2.1 ++ (tO G an o.2.2.2.2.2.2.1 ++ (pO G an o.2.2.2.2.2.2.2.1 ++ (zO G an o.2.2.2.2.2.2.2.2.1 ++ (eO G an o.2.2.2.2.2.2.2.2.2.1 ++ []))))))))))) rfl rfl dX8_swap_17
  unfold f_X8_swap at hf
  refine r_iload0 C hl 1 rfl dX8_swap_0 ?_
  refine lv_if_lt (tgt := 12) C.1 C.2.1 dX8_swap_1 (by decide) (fun hc => ?_) (fun hc => ?_)
  · replace hf := ifp hf hc
    exact hB_12  m_am r_ar s_at_ c_ac h_ah t_an p_an z_an e_an hf _ _ hw _ (lv_sub hl [0] rfl)
  · replace hf := ifn hf hc
    refine r_iload0 C hl 1 rfl dX8_swap_4 ?_
    refine r_aload0 C hl 0 rfl dX8_swap_5 ?_
    refine r_get C hw _ (gx_h mO_o) 1 fl_X8_55 rfl dX8_swap_6 ?_
    refine lv_icmp_le (tgt := 18) C.1 C.2.1 dX8_swap_9 (by decide) (fun hc => ?_) (fun hc => ?_)
    · replace hf := ifp hf hc
      refine r_aload0 C hl 0 rfl dX8_swap_18 ?_
      refine lv_iconst (v := 0) C.1 C.2.1 dX8_swap_19 (by decide) ?_
      obtain ⟨m_am2, e2, hf⟩ := bx hf
      refine r_put C hw _ (gx_h mO_o) 1 fp_X8_55 rfl rfl (Nat.le_of_ble_eq_true rfl) (mO G am as_ ar ac an ath ah m_am2 ++ (rO G ar ab at_ r_ar ++ (bO G am b_am ++ (sO G at_ s_at_ ++ (cO G ac c_ac ++ (hO G ah rg h_ah ++ (tO G an t_an ++ (pO G an p_an ++ (zO G an z_an ++ (eO G an e_an ++ [])))))))))) (sx_h mO_o (mO_p1 e2)) dX8_swap_20 (fun H locs hw => ?_)
      refine r_aload0 C hl 0 rfl dX8_swap_23 ?_
      refine r_aload0 C hl 0 rfl dX8_swap_24 ?_
      refine r_get C hw _ (gx_h mO_o) 7 fl_X8_23 rfl dX8_swap_25 ?_
      refine r_aload0 C hl 0 rfl dX8_swap_28 ?_
      refine r_get C hw _ (gx_h mO_o) 0 fl_X8_9 rfl dX8_swap_29 ?_
      refine r_iload0 C hl 1 rfl dX8_swap_32 ?_
      obtain ⟨u3, e3, hf⟩ := bx hf
      refine g_callVi (ws' := (mO G am as_ ar ac an ath ah m_am2 ++ (rO G ar am at_ u3.2.1 ++ (bO G am b_am ++ (sO G at_ u3.2.2 ++ (cO G ac c_ac ++ (hO G ah rg h_ah ++ (tO G an t_an ++ (pO G an p_an ++ (zO G an z_an ++ (eO G an e_an ++ []))))))))))) (As := [.ref (am 0), .int x1]) (rest := [.ref (am 99)]) C hw hl.1 kX4_readScript ml_X8_67 (c_X4_readScript l G K ar am at_ ab _ r_ar b_am s_at_ x1 u3 e3) blindT (CutX.skip (CutX.take rO_f2 (CutX.take bO_f (CutX.take sO_f CutX.none)))) (fun hf U hU hW hp => ⟨hp, hq.pass hw.2.2.2.1 hf hU hW⟩) (va_recv hw.1 hw.2.1 rfl (gx_t (gx_h rO_o))) ⟨rfl, rfl⟩ ⟨Nat.le_of_ble_eq_true rfl, Nat.le_of_ble_eq_true rfl⟩ rfl ⟨Nat.zero_le _, Nat.zero_le _⟩ rfl (Nat.le_of_ble_eq_true rfl) dX8_swap_33 (fun H locs hw => ?_)
      obtain ⟨m_am4, e4, hf⟩ := bx hf
      refine r_put C hw _ (gx_h mO_o) 4 fp_X8_71 rfl rfl (Nat.le_of_ble_eq_true rfl) (mO G am as_ ar ac an ath ah m_am4 ++ (rO G ar am at_ u3.2.1 ++ (bO G am b_am ++ (sO G at_ u3.2.2 ++ (cO G ac c_ac ++ (hO G ah rg h_ah ++ (tO G an t_an ++ (pO G an p_an ++ (zO G an z_an ++ (eO G an e_an ++ [])))))))))) (sx_h mO_o (mO_p4 e4)) dX8_swap_36 (fun H locs hw => ?_)
      refine r_aload0 C hl 0 rfl dX8_swap_39 ?_
      refine r_get C hw _ (gx_h mO_o) 4 fl_X8_71 rfl dX8_swap_40 ?_
      refine lv_if_eq (tgt := 63) C.1 C.2.1 dX8_swap_43 (by decide) (fun hc => ?_) (fun hc => ?_)
      · replace hf := ifp hf hc
        refine r_aload0 C hl 0 rfl dX8_swap_63 ?_
        refine r_aload0 C hl 0 rfl dX8_swap_64 ?_
        refine r_get C hw _ (gx_h mO_o) 7 fl_X8_23 rfl dX8_swap_65 ?_
        refine r_aload0 C hl 0 rfl dX8_swap_68 ?_
        refine r_get C hw _ (gx_h mO_o) 6 fl_X8_16 rfl dX8_swap_69 ?_
        refine r_trade (ws' := (mO G am as_ ar ac an ath ah m_am4 ++ (rO G ar am as_ u3.2.1 ++ (bO G am b_am ++ (sO G at_ u3.2.2 ++ (cO G ac c_ac ++ (hO G ah rg h_ah ++ (tO G an t_an ++ (pO G an p_an ++ (zO G an z_an ++ (eO G an e_an ++ []))))))))))) (rest := [.ref (am 99)]) C hw hl.1 ml_X8_81 (c_X4_trade l G ar am at_ as_ _ u3.2.1) (CutX.skip (CutX.take rO_f2 CutX.none)) (gx_t (gx_h rO_o)) ⟨Nat.le_of_ble_eq_true rfl, Nat.le_of_ble_eq_true rfl⟩ ⟨Nat.zero_le _, Nat.zero_le _⟩ rfl (Nat.le_of_ble_eq_true rfl) dX8_swap_72 (fun H locs hw => ?_)
        refine r_put C hw _ (gx_h mO_o) 6 fp_X8_16 rfl rfl (Nat.le_of_ble_eq_true rfl) (mO G am at_ ar ac an ath ah m_am4 ++ (rO G ar am as_ u3.2.1 ++ (bO G am b_am ++ (sO G at_ u3.2.2 ++ (cO G ac c_ac ++ (hO G ah rg h_ah ++ (tO G an t_an ++ (pO G an p_an ++ (zO G an z_an ++ (eO G an e_an ++ [])))))))))) (sx_h mO_o (mO_ps)) dX8_swap_75 (fun H locs hw => ?_)
        refine r_aload0 C hl 0 rfl dX8_swap_78 ?_
        refine lv_iconst (v := 1) C.1 C.2.1 dX8_swap_79 (by decide) ?_
        obtain ⟨m_am6, e6, hf⟩ := bx hf
        refine r_put C hw _ (gx_h mO_o) 2 fp_X8_85 (by decide) rfl (Nat.le_of_ble_eq_true rfl) (mO G am at_ ar ac an ath ah m_am6 ++ (rO G ar am as_ u3.2.1 ++ (bO G am b_am ++ (sO G at_ u3.2.2 ++ (cO G ac c_ac ++ (hO G ah rg h_ah ++ (tO G an t_an ++ (pO G an p_an ++ (zO G an z_an ++ (eO G an e_an ++ [])))))))))) (sx_h mO_o (mO_p2 e6)) dX8_swap_80 (fun H locs hw => ?_)
        refine r_aload0 C hl 0 rfl dX8_swap_83 ?_
        refine r_get C hw _ (gx_h mO_o) 9 fl_X8_37 rfl dX8_swap_84 ?_
        refine r_aload0 C hl 0 rfl dX8_swap_87 ?_
        refine r_get C hw _ (gx_h mO_o) 6 fl_X8_16 rfl dX8_swap_88 ?_
        refine r_aload0 C hl 0 rfl dX8_swap_91 ?_
        refine r_get C hw _ (gx_h mO_o) 8 fl_X8_30 rfl dX8_swap_92 ?_
        obtain ⟨u7, e7, hf⟩ := bx hf
        refine r_callVv (ws' := (mO G am at_ ar ac an ath ah m_am6 ++ (rO G ar am as_ u3.2.1 ++ (bO G am b_am ++ (sO G at_ u3.2.2 ++ (cO G ac u7.1 ++ (hO G ah rg h_ah ++ (tO G an u7.2.1 ++ (pO G an u7.2.2.1 ++ (zO G an u7.2.2.2.1 ++ (eO G an u7.2.2.2.2 ++ []))))))))))) (As := [.ref (at_ 99), .ref (ac 99)]) (rest := []) C hw hl.1 kX6_begin ml_X8_89 (c_X6_begin l G an at_ ac _ u3.2.2 c_ac t_an p_an z_an e_an u7 e7) (CutX.skip (CutX.skip (CutX.skip (CutX.take sO_f (CutX.take cO_f (CutX.skip (CutX.take tO_f (CutX.take pO_f (CutX.take zO_f (CutX.take eO_f CutX.none)))))))))) _ (gx_t (gx_t (gx_t (gx_t (gx_t (gx_t (gx_h tO_o))))))) rfl ⟨rfl, rfl⟩ ⟨Nat.le_of_ble_eq_true rfl, Nat.le_of_ble_eq_true rfl⟩ rfl ⟨Nat.zero_le _, Nat.zero_le _⟩ rfl (Nat.le_of_ble_eq_true rfl) dX8_swap_95 (fun H locs hw => ?_)
        refine r_aload0 C hl 0 rfl dX8_swap_98 ?_
        refine r_get C hw _ (gx_h mO_o) 11 fl_X8_51 rfl dX8_swap_99 ?_
        obtain ⟨u8, e8, hf⟩ := bx hf
        refine r_callVv (ws' := (mO G am at_ ar ac an ath ah m_am6 ++ (rO G ar am as_ u3.2.1 ++ (bO G am b_am ++ (sO G at_ u3.2.2 ++ (cO G ac u7.1 ++ (hO G ah rg u8 ++ (tO G an u7.2.1 ++ (pO G an u7.2.2.1 ++ (zO G an u7.2.2.2.1 ++ (eO G an u7.2.2.2.2 ++ []))))))))))) (As := []) (rest := []) C hw hl.1 kX2_forget ml_X8_93 (c_X2_forget l G ah rg _ h_ah u8 e8) (CutX.skip (CutX.skip (CutX.skip (CutX.skip (CutX.skip (CutX.take hO_f CutX.none)))))) _ (gx_t (gx_t (gx_t (gx_t (gx_t (gx_h hO_o)))))) rfl ⟨rfl, rfl⟩ ⟨Nat.le_of_ble_eq_true rfl, Nat.le_of_ble_eq_true rfl⟩ rfl ⟨Nat.zero_le _, Nat.zero_le _⟩ rfl (Nat.le_of_ble_eq_true rfl) dX8_swap_102 (fun H locs hw => ?_)
        refine r_aload0 C hl 0 rfl dX8_swap_105 ?_
        refine r_aload0 C hl 0 rfl dX8_swap_106 ?_
        refine r_get C hw _ (gx_h mO_o) 6 fl_X8_16 rfl dX8_swap_107 ?_
        refine r_get C hw _ (gx_t (gx_t (gx_t (gx_h sO_o)))) 3 fl_X8_96 rfl dX8_swap_110 ?_
        obtain ⟨u9, e9, hf⟩ := bx hf
        refine r_callVi (ws' := (mO G am at_ ar ac an ath ah u9.2 ++ (rO G ar am as_ u3.2.1 ++ (bO G am b_am ++ (sO G at_ u3.2.2 ++ (cO G ac u7.1 ++ (hO G ah rg u8 ++ (tO G an u7.2.1 ++ (pO G an u7.2.2.1 ++ (zO G an u7.2.2.2.1 ++ (eO G an u7.2.2.2.2 ++ []))))))))))) (As := [.int (gS u3.2.2 3)]) (rest := []) C hw hl.1 kX8_answer ml_X8_99 (c_X8_answer l G am at_ ar ac an ath ah _ m_am6 (gS u3.2.2 3) u9 e9) (CutX.take mO_f CutX.none) _ (gx_h mO_o) rfl ⟨rfl, rfl⟩ ⟨Nat.le_of_ble_eq_true rfl, Nat.le_of_ble_eq_true rfl⟩ rfl ⟨Nat.zero_le _, Nat.zero_le _⟩ rfl (Nat.le_of_ble_eq_true rfl) dX8_swap_113 (fun H locs hw => ?_)
        exact fin_i C hw (Option.some.inj hf) (fun o => o.1) (fun o => (mO G am (sel3 o.2.2.2.2.2.2.2.2.2.2 as_ as_ at_) ar ac an ath ah o.2.1 ++ (rO G ar (sel3 o.2.2.2.2.2.2.2.2.2.2 ab am am) (sel3 o.2.2.2.2.2.2.2.2.2.2 at_ at_ as_) o.2.2.1 ++ (bO G am b_am ++ (sO G at_ o.2.2.2.1 ++ (cO G ac o.2.2.2.2.1 ++ (hO G ah rg o.2.2.2.2.2.1 ++ (tO G an o.2.2.2.2.2.2.1 ++ (pO G an o.2.2.2.2.2.2.2.1 ++ (zO G an o.2.2.2.2.2.2.2.2.1 ++ (eO G an o.2.2.2.2.2.2.2.2.2.1 ++ []))))))))))) rfl rfl dX8_swap_116
      · replace hf := ifn hf hc
        refine r_aload0 C hl 0 rfl dX8_swap_46 ?_
        refine r_aload0 C hl 0 rfl dX8_swap_47 ?_
        refine r_get C hw _ (gx_h mO_o) 7 fl_X8_23 rfl dX8_swap_48 ?_
        obtain ⟨u10, e10, hf⟩ := bx hf
        refine r_callVi (ws' := (mO G am as_ ar ac an ath ah m_am4 ++ (rO G ar am at_ u3.2.1 ++ (bO G am b_am ++ (sO G at_ u3.2.2 ++ (cO G ac c_ac ++ (hO G ah rg h_ah ++ (tO G an t_an ++ (pO G an p_an ++ (zO G an z_an ++ (eO G an e_an ++ []))))))))))) (As := []) (rest := [.ref (am 99)]) C hw hl.1 kX4_place ml_X8_74 (c_X4_place l G ar am at_ _ u3.2.1 u10 e10) (CutX.skip (CutX.take rO_f2 CutX.none)) _ (gx_t (gx_h rO_o)) rfl ⟨rfl, rfl⟩ ⟨Nat.le_of_ble_eq_true rfl, Nat.le_of_ble_eq_true rfl⟩ rfl ⟨Nat.zero_le _, Nat.zero_le _⟩ rfl (Nat.le_of_ble_eq_true rfl) dX8_swap_51 (fun H locs hw => ?_)
        obtain ⟨m_am11, e11, hf⟩ := bx hf
        refine r_put C hw _ (gx_h mO_o) 5 fp_X8_78 rfl rfl (Nat.le_of_ble_eq_true rfl) (mO G am as_ ar ac an ath ah m_am11 ++ (rO G ar am at_ u3.2.1 ++ (bO G am b_am ++ (sO G at_ u3.2.2 ++ (cO G ac c_ac ++ (hO G ah rg h_ah ++ (tO G an t_an ++ (pO G an p_an ++ (zO G an z_an ++ (eO G an e_an ++ [])))))))))) (sx_h mO_o (mO_p5 e11)) dX8_swap_54 (fun H locs hw => ?_)
        refine r_aload0 C hl 0 rfl dX8_swap_57 ?_
        refine lv_iconst (v := 4) C.1 C.2.1 dX8_swap_58 (by decide) ?_
        obtain ⟨u12, e12, hf⟩ := bx hf
        refine r_callVi (ws' := (mO G am as_ ar ac an ath ah u12.2 ++ (rO G ar am at_ u3.2.1 ++ (bO G am b_am ++ (sO G at_ u3.2.2 ++ (cO G ac c_ac ++ (hO G ah rg h_ah ++ (tO G an t_an ++ (pO G an p_an ++ (zO G an z_an ++ (eO G an e_an ++ []))))))))))) (As := [.int 4]) (rest := []) C hw hl.1 kX8_refuse ml_X8_63 (c_X8_refuse l G am as_ ar ac an ath ah _ m_am11 4 u12 e12) (CutX.take mO_f CutX.none) _ (gx_h mO_o) rfl ⟨rfl, rfl⟩ ⟨Nat.le_of_ble_eq_true rfl, Nat.le_of_ble_eq_true rfl⟩ rfl ⟨Nat.zero_le _, Nat.zero_le _⟩ rfl (Nat.le_of_ble_eq_true rfl) dX8_swap_59 (fun H locs hw => ?_)
        exact fin_i C hw (Option.some.inj hf) (fun o => o.1) (fun o => (mO G am (sel3 o.2.2.2.2.2.2.2.2.2.2 as_ as_ at_) ar ac an ath ah o.2.1 ++ (rO G ar (sel3 o.2.2.2.2.2.2.2.2.2.2 ab am am) (sel3 o.2.2.2.2.2.2.2.2.2.2 at_ at_ as_) o.2.2.1 ++ (bO G am b_am ++ (sO G at_ o.2.2.2.1 ++ (cO G ac o.2.2.2.2.1 ++ (hO G ah rg o.2.2.2.2.2.1 ++ (tO G an o.2.2.2.2.2.2.1 ++ (pO G an o.2.2.2.2.2.2.2.1 ++ (zO G an o.2.2.2.2.2.2.2.2.1 ++ (eO G an o.2.2.2.2.2.2.2.2.2.1 ++ []))))))))))) rfl rfl dX8_swap_62
    · replace hf := ifn hf hc
      exact hB_12  m_am r_ar s_at_ c_ac h_ah t_an p_an z_an e_an hf _ _ hw _ (lv_sub hl [0] rfl)
