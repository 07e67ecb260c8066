set_option maxHeartbeats 4000000 in
set_option maxRecDepth 100000 in
theorem c_X8_writeBack (l : Launch) (G : GG) (am : Nat → Nat) (as_ : Nat → Nat) (ar : Nat → Nat) (ac : Nat → Nat) (an : Nat → Nat) (ath : Nat → Nat) (ah : Nat → Nat) (ads : Nat → Nat → Nat) (sz : Nat) (m_am : Pic) (h_ah : Pic) (t_an : Pic) (p_an : Pic) (z_an : Pic) (e_an : Pic) (rs : Nat → Option Q4) (x1 : Int32) (out : Int32 × Pic × Pic × Pic × Pic × (Nat → Option Q4)) (hf : f_X8_writeBack m_am h_ah t_an p_an z_an e_an rs x1 = some out) : Met l yX8_writeBack (.code yX8_writeBack cX8_writeBack 2 (some .int) :: BT) ({ frames := 5, cells := 19, slots := 1368, locals := 110 }) (va_Pc [.ref (am 99), .int x1] (PreN G sz (mO G am as_ ar ac an ath ah m_am ++ (hO G ah (rgA ads rs) h_ah ++ (tO G an t_an ++ (pO G an p_an ++ (zO G an z_an ++ (eO G an e_an ++ (kO G ads rs ++ []))))))))) (AnsK G out.1 (va_A (mO G am as_ ar ac an ath ah m_am ++ (hO G ah (rgA ads rs) h_ah ++ (tO G an t_an ++ (pO G an p_an ++ (zO G an z_an ++ (eO G an e_an ++ (kO G ads rs ++ []))))))) sz) (fun ads => (mO G am as_ ar ac an ath ah out.2.1 ++ (hO G ah (rgA ads out.2.2.2.2.2) out.2.2.1 ++ (tO G an t_an ++ (pO G an out.2.2.2.1 ++ (zO G an out.2.2.2.2.1 ++ (eO G an e_an ++ (kO G ads out.2.2.2.2.2 ++ []))))))))) 19 1368 (va_A (mO G am as_ ar ac an ath ah m_am ++ (hO G ah (rgA ads rs) h_ah ++ (tO G an t_an ++ (pO G an p_an ++ (zO G an z_an ++ (eO G an e_an ++ (kO G ads rs ++ []))))))) sz) := by
  refine Met.intoN (by decide) (Nat.le_of_ble_eq_true rfl) ?_
  intro p e s m below meth c C hsz hq ls hl hw
  have hl : lv_has ls 2 [(0, .ref (am 99)), (1, .int x1)] := hl
  clear hsz
  generalize va_A (mO G am as_ ar ac an ath ah m_am ++ (hO G ah (rgA ads rs) h_ah ++ (tO G an t_an ++ (pO G an p_an ++ (zO G an z_an ++ (eO G an e_an ++ (kO G ads rs ++ []))))))) sz = A at hw ⊢
  have hB_24 : ∀ (m_am : Pic) (h_ah : Pic) (p_an : Pic) (z_an : Pic) (rs : Nat → Option Q4), b_X8_writeBack_24 t_an e_an x1  m_am h_ah p_an z_an rs = some out → ∀ (ads : Nat → Nat → Nat) (H : Heap) (locs : List Loc), Wd G A s H locs (mO G am as_ ar ac an ath ah m_am ++ (hO G ah (rgA ads rs) h_ah ++ (tO G an t_an ++ (pO G an p_an ++ (zO G an z_an ++ (eO G an e_an ++ (kO G ads rs ++ []))))))) → ∀ ls : Array Slot, lv_has ls 2 [(0, .ref (am 99))] → W p l e ({ frames := 5, cells := 19, slots := 1368, locals := 110 }) s m [.ref (am 99), .int x1].toArray below meth c H locs 0 0 (MQ below (AnsK G out.1 A (fun ads => (mO G am as_ ar ac an ath ah out.2.1 ++ (hO G ah (rgA ads out.2.2.2.2.2) out.2.2.1 ++ (tO G an t_an ++ (pO G an out.2.2.2.1 ++ (zO G an out.2.2.2.2.1 ++ (eO G an e_an ++ (kO G ads out.2.2.2.2.2 ++ []))))))))) [.ref (am 99), .int x1].toArray s 19 1368 A) (F0 m 24 ls []) := by
    intro m_am h_ah p_an z_an rs hf ads H locs hw ls hl
    unfold b_X8_writeBack_24 at hf
    refine r_aload0 C hl 0 rfl dX8_writeBack_24 ?_
    refine lv_iconst (v := 2) C.1 C.2.1 dX8_writeBack_25 (by decide) ?_
    obtain ⟨u1, e1, hf⟩ := bx hf
    refine r_callVi (ws' := (mO G am as_ ar ac an ath ah u1.2 ++ (hO G ah (rgA ads rs) h_ah ++ (tO G an t_an ++ (pO G an p_an ++ (zO G an z_an ++ (eO G an e_an ++ (kO G ads rs ++ [])))))))) (As := [.int 2]) (rest := []) C hw hl.1 kX8_refuse ml_X8_63 (c_X8_refuse l G am as_ ar ac an ath ah _ m_am 2 u1 e1) (CutX.take mO_f CutX.none) _ (gx_h mO_o) rfl ⟨rfl, rfl⟩ ⟨Nat.le_of_ble_eq_true rfl, Nat.le_of_ble_eq_true rfl⟩ rfl ⟨Nat.le_of_ble_eq_true rfl, Nat.le_of_ble_eq_true rfl⟩ rfl (Nat.le_of_ble_eq_true rfl) dX8_writeBack_26 (fun H locs hw => ?_)
    refine W.widen (k := 19) (n := 1368) (Nat.le_of_ble_eq_true rfl) (Nat.le_of_ble_eq_true rfl) ?_
    exact fin_iK C hw (Option.some.inj hf) (fun o => o.1) (fun o ads => (mO G am as_ ar ac an ath ah o.2.1 ++ (hO G ah (rgA ads o.2.2.2.2.2) o.2.2.1 ++ (tO G an t_an ++ (pO G an o.2.2.2.1 ++ (zO G an o.2.2.2.2.1 ++ (eO G an e_an ++ (kO G ads o.2.2.2.2.2 ++ [])))))))) ads rfl rfl dX8_writeBack_29
  unfold f_X8_writeBack at hf
  refine r_aload0 C hl 0 rfl dX8_writeBack_0 ?_
  refine r_get C hw _ (gx_h mO_o) 2 fl_X8_85 rfl dX8_writeBack_1 ?_
  refine lv_if_ne (tgt := 13) C.1 C.2.1 dX8_writeBack_4 (by decide) (fun hc => ?_) (fun hc => ?_)
  · replace hf := ifn hf hc
    refine r_iload0 C hl 1 rfl dX8_writeBack_13 ?_
    refine lv_iconst (v := 1) C.1 C.2.1 dX8_writeBack_14 (by decide) ?_
    refine lv_icmp_lt (tgt := 24) C.1 C.2.1 dX8_writeBack_15 (by decide) (fun hc => ?_) (fun hc => ?_)
    · replace hf := ifp hf hc
      exact hB_24  m_am h_ah p_an z_an rs hf _ _ _ hw _ (lv_sub hl [0] rfl)
    · replace hf := ifn hf hc
      refine r_iload0 C hl 1 rfl dX8_writeBack_18 ?_
      refine lv_bipush (v := 30) C.1 C.2.1 dX8_writeBack_19 (by decide) ?_
      refine lv_icmp_le (tgt := 30) C.1 C.2.1 dX8_writeBack_21 (by decide) (fun hc => ?_) (fun hc => ?_)
      · replace hf := ifp hf hc
        refine r_aload0 C hl 0 rfl dX8_writeBack_30 ?_
        refine r_get C hw _ (gx_h mO_o) 11 fl_X8_51 rfl dX8_writeBack_31 ?_
        refine r_aload0 C hl 0 rfl dX8_writeBack_34 ?_
        refine r_get C hw _ (gx_h mO_o) 9 fl_X8_37 rfl dX8_writeBack_35 ?_
        obtain ⟨u2, e2, hf⟩ := bx hf
        refine r_keep (wr := mO G am as_ ar ac an ath ah m_am ++ ([])) C hq (by simpa only [kW, List.append_assoc, List.nil_append, List.append_nil] using hw) hl.1 ml_X8_324 (c_X2_keep l G ah an ads _ h_ah rs t_an p_an z_an e_an u2 e2) ⟨Nat.le_of_ble_eq_true rfl, Nat.le_of_ble_eq_true rfl⟩ ⟨Nat.le_of_ble_eq_true rfl, Nat.le_of_ble_eq_true rfl⟩ (Nat.le_of_ble_eq_true rfl) dX8_writeBack_38 (fun ads2 H locs hw => ?_)
        have hw : Wd G A s H locs (mO G am as_ ar ac an ath ah m_am ++ (hO G ah (rgA ads2 u2.2) u2.1 ++ (tO G an t_an ++ (pO G an p_an ++ (zO G an z_an ++ (eO G an e_an ++ (kO G ads2 u2.2 ++ []))))))) := by simpa only [kW, List.append_assoc, List.nil_append, List.append_nil] using hw
        refine r_aload0 C hl 0 rfl dX8_writeBack_41 ?_
        refine r_aload0 C hl 0 rfl dX8_writeBack_42 ?_
        refine r_get C hw _ (gx_h mO_o) 9 fl_X8_37 rfl dX8_writeBack_43 ?_
        refine r_get C hw _ (gx_t (gx_t (gx_h tO_o))) 2 fl_X8_105 rfl dX8_writeBack_46 ?_
        refine r_iload0 C hl 1 rfl dX8_writeBack_49 ?_
        obtain ⟨u3, e3, hf⟩ := bx hf
        refine r_callVi (ws' := (mO G am as_ ar ac an ath ah m_am ++ (hO G ah (rgA ads2 u2.2) u2.1 ++ (tO G an t_an ++ (pO G an u3.2.1 ++ (zO G an u3.2.2 ++ (eO G an e_an ++ (kO G ads2 u2.2 ++ [])))))))) (As := [.int x1]) (rest := [.ref (am 99)]) C hw hl.1 kX3_writeColdest ml_X8_287 (c_X3_writeColdest l G an _ p_an z_an x1 u3 e3) (CutX.skip (CutX.skip (CutX.skip (CutX.take pO_f (CutX.take zO_f CutX.none))))) _ (gx_t (gx_t (gx_t (gx_h pO_o)))) rfl ⟨rfl, rfl⟩ ⟨Nat.le_of_ble_eq_true rfl, Nat.le_of_ble_eq_true rfl⟩ rfl ⟨Nat.le_of_ble_eq_true rfl, Nat.le_of_ble_eq_true rfl⟩ rfl (Nat.le_of_ble_eq_true rfl) dX8_writeBack_50 (fun H locs hw => ?_)
        obtain ⟨u4, e4, hf⟩ := bx hf
        refine r_callVi (ws' := (mO G am as_ ar ac an ath ah u4.2 ++ (hO G ah (rgA ads2 u2.2) u2.1 ++ (tO G an t_an ++ (pO G an u3.2.1 ++ (zO G an u3.2.2 ++ (eO G an e_an ++ (kO G ads2 u2.2 ++ [])))))))) (As := [.int u3.1]) (rest := []) C hw hl.1 kX8_answer ml_X8_99 (c_X8_answer l G am as_ ar ac an ath ah _ m_am u3.1 u4 e4) (CutX.take mO_f CutX.none) _ (gx_h mO_o) rfl ⟨rfl, rfl⟩ ⟨Nat.le_of_ble_eq_true rfl, Nat.le_of_ble_eq_true rfl⟩ rfl ⟨Nat.le_of_ble_eq_true rfl, Nat.le_of_ble_eq_true rfl⟩ rfl (Nat.le_of_ble_eq_true rfl) dX8_writeBack_53 (fun H locs hw => ?_)
        refine W.widen (k := 19) (n := 1368) (Nat.le_of_ble_eq_true rfl) (Nat.le_of_ble_eq_true rfl) ?_
        exact fin_iK C hw (Option.some.inj hf) (fun o => o.1) (fun o ads => (mO G am as_ ar ac an ath ah o.2.1 ++ (hO G ah (rgA ads o.2.2.2.2.2) o.2.2.1 ++ (tO G an t_an ++ (pO G an o.2.2.2.1 ++ (zO G an o.2.2.2.2.1 ++ (eO G an e_an ++ (kO G ads o.2.2.2.2.2 ++ [])))))))) ads2 rfl rfl dX8_writeBack_56
      · replace hf := ifn hf hc
        exact hB_24  m_am h_ah p_an z_an rs hf _ _ _ hw _ (lv_sub hl [0] rfl)
  · replace hf := ifp hf hc
    refine r_aload0 C hl 0 rfl dX8_writeBack_7 ?_
    refine lv_iconst (v := 1) C.1 C.2.1 dX8_writeBack_8 (by decide) ?_
    obtain ⟨u5, e5, hf⟩ := bx hf
    refine r_callVi (ws' := (mO G am as_ ar ac an ath ah u5.2 ++ (hO G ah (rgA ads rs) h_ah ++ (tO G an t_an ++ (pO G an p_an ++ (zO G an z_an ++ (eO G an e_an ++ (kO G ads rs ++ [])))))))) (As := [.int 1]) (rest := []) C hw hl.1 kX8_refuse ml_X8_63 (c_X8_refuse l G am as_ ar ac an ath ah _ m_am 1 u5 e5) (CutX.take mO_f CutX.none) _ (gx_h mO_o) rfl ⟨rfl, rfl⟩ ⟨Nat.le_of_ble_eq_true rfl, Nat.le_of_ble_eq_true rfl⟩ rfl ⟨Nat.le_of_ble_eq_true rfl, Nat.le_of_ble_eq_true rfl⟩ rfl (Nat.le_of_ble_eq_true rfl) dX8_writeBack_9 (fun H locs hw => ?_)
    refine W.widen (k := 19) (n := 1368) (Nat.le_of_ble_eq_true rfl) (Nat.le_of_ble_eq_true rfl) ?_
    exact fin_iK C hw (Option.some.inj hf) (fun o => o.1) (fun o ads => (mO G am as_ ar ac an ath ah o.2.1 ++ (hO G ah (rgA ads o.2.2.2.2.2) o.2.2.1 ++ (tO G an t_an ++ (pO G an o.2.2.2.1 ++ (zO G an o.2.2.2.2.1 ++ (eO G an e_an ++ (kO G ads o.2.2.2.2.2 ++ [])))))))) ads rfl rfl dX8_writeBack_12
set_option maxHeartbeats 4000000 in
set_option maxRecDepth 100000 in
theorem c_X8_limit (l : Launch) (G : GG) (am : Nat → Nat) (as_ : Nat → Nat) (ar : Nat → Nat) (ac : Nat → Nat) (an : Nat → Nat) (ath : Nat → Nat) (ah : Nat → Nat) (ads : Nat → Nat → Nat) (sz : Nat) (m_am : Pic) (h_ah : Pic) (t_an : Pic) (p_an : Pic) (z_an : Pic) (e_an : Pic) (rs : Nat → Option Q4) (x1 : Int32) (out : Int32 × Pic × Pic × Pic × Pic × (Nat → Option Q4)) (hf : f_X8_limit m_am h_ah t_an p_an z_an e_an rs x1 = some out) : Met l yX8_limit (.code yX8_limit cX8_limit 2 (some .int) :: BT) ({ frames := 5, cells := 19, slots := 1368, locals := 110 }) (va_Pc [.ref (am 99), .int x1] (PreN G sz (mO G am as_ ar ac an ath ah m_am ++ (hO G ah (rgA ads rs) h_ah ++ (tO G an t_an ++ (pO G an p_an ++ (zO G an z_an ++ (eO G an e_an ++ (kO G ads rs ++ []))))))))) (AnsK G out.1 (va_A (mO G am as_ ar ac an ath ah m_am ++ (hO G ah (rgA ads rs) h_ah ++ (tO G an t_an ++ (pO G an p_an ++ (zO G an z_an ++ (eO G an e_an ++ (kO G ads rs ++ []))))))) sz) (fun ads => (mO G am as_ ar ac an ath ah out.2.1 ++ (hO G ah (rgA ads out.2.2.2.2.2) out.2.2.1 ++ (tO G an t_an ++ (pO G an out.2.2.2.1 ++ (zO G an out.2.2.2.2.1 ++ (eO G an e_an ++ (kO G ads out.2.2.2.2.2 ++ []))))))))) 19 1368 (va_A (mO G am as_ ar ac an ath ah m_am ++ (hO G ah (rgA ads rs) h_ah ++ (tO G an t_an ++ (pO G an p_an ++ (zO G an z_an ++ (eO G an e_an ++ (kO G ads rs ++ []))))))) sz) := by
  refine Met.intoN (by decide) (Nat.le_of_ble_eq_true rfl) ?_
  intro p e s m below meth c C hsz hq ls hl hw
  have hl : lv_has ls 2 [(0, .ref (am 99)), (1, .int x1)] := hl
  clear hsz
  generalize va_A (mO G am as_ ar ac an ath ah m_am ++ (hO G ah (rgA ads rs) h_ah ++ (tO G an t_an ++ (pO G an p_an ++ (zO G an z_an ++ (eO G an e_an ++ (kO G ads rs ++ []))))))) sz = A at hw ⊢
  unfold f_X8_limit at hf
  refine r_aload0 C hl 0 rfl dX8_limit_0 ?_
  refine r_get C hw _ (gx_h mO_o) 2 fl_X8_85 rfl dX8_limit_1 ?_
  refine lv_if_ne (tgt := 13) C.1 C.2.1 dX8_limit_4 (by decide) (fun hc => ?_) (fun hc => ?_)
  · replace hf := ifn hf hc
    refine r_iload0 C hl 1 rfl dX8_limit_13 ?_
    obtain ⟨u1, e1, hf⟩ := bx hf
    refine r_callSi (ws' := (mO G am as_ ar ac an ath ah m_am ++ (hO G ah (rgA ads rs) h_ah ++ (tO G an t_an ++ (pO G an p_an ++ (zO G an z_an ++ (eO G an e_an ++ (kO G ads rs ++ [])))))))) (As := [.int x1]) (rest := []) C hw hl.1 kX8_noLimit ml_X8_277 (c_X8_noLimit l G _ x1 u1 e1) CutX.none ⟨rfl, rfl⟩ ⟨Nat.le_of_ble_eq_true rfl, Nat.le_of_ble_eq_true rfl⟩ rfl ⟨Nat.le_of_ble_eq_true rfl, Nat.le_of_ble_eq_true rfl⟩ rfl (Nat.le_of_ble_eq_true rfl) dX8_limit_14 (fun H locs hw => ?_)
    refine lv_if_eq (tgt := 26) C.1 C.2.1 dX8_limit_17 (by decide) (fun hc => ?_) (fun hc => ?_)
    · replace hf := ifp hf hc
      refine r_aload0 C hl 0 rfl dX8_limit_26 ?_
      refine r_get C hw _ (gx_h mO_o) 11 fl_X8_51 rfl dX8_limit_27 ?_
      refine r_aload0 C hl 0 rfl dX8_limit_30 ?_
      refine r_get C hw _ (gx_h mO_o) 9 fl_X8_37 rfl dX8_limit_31 ?_
      obtain ⟨u2, e2, hf⟩ := bx hf
      refine r_keep (wr := mO G am as_ ar ac an ath ah m_am ++ ([])) C hq (by simpa only [kW, List.append_assoc, List.nil_append, List.append_nil] using hw) hl.1 ml_X8_324 (c_X2_keep l G ah an ads _ h_ah rs t_an p_an z_an e_an u2 e2) ⟨Nat.le_of_ble_eq_true rfl, Nat.le_of_ble_eq_true rfl⟩ ⟨Nat.le_of_ble_eq_true rfl, Nat.le_of_ble_eq_true rfl⟩ (Nat.le_of_ble_eq_true rfl) dX8_limit_34 (fun ads2 H locs hw => ?_)
      have hw : Wd G A s H locs (mO G am as_ ar ac an ath ah m_am ++ (hO G ah (rgA ads2 u2.2) u2.1 ++ (tO G an t_an ++ (pO G an p_an ++ (zO G an z_an ++ (eO G an e_an ++ (kO G ads2 u2.2 ++ []))))))) := by simpa only [kW, List.append_assoc, List.nil_append, List.append_nil] using hw
      refine r_aload0 C hl 0 rfl dX8_limit_37 ?_
      refine r_aload0 C hl 0 rfl dX8_limit_38 ?_
      refine r_get C hw _ (gx_h mO_o) 9 fl_X8_37 rfl dX8_limit_39 ?_
      refine r_get C hw _ (gx_t (gx_t (gx_h tO_o))) 2 fl_X8_105 rfl dX8_limit_42 ?_
      refine r_iload0 C hl 1 rfl dX8_limit_45 ?_
      obtain ⟨u3, e3, hf⟩ := bx hf
      refine r_callVi (ws' := (mO G am as_ ar ac an ath ah m_am ++ (hO G ah (rgA ads2 u2.2) u2.1 ++ (tO G an t_an ++ (pO G an u3.2.1 ++ (zO G an u3.2.2 ++ (eO G an e_an ++ (kO G ads2 u2.2 ++ [])))))))) (As := [.int x1]) (rest := [.ref (am 99)]) C hw hl.1 kX3_changeLimit ml_X8_284 (c_X3_changeLimit l G an _ p_an z_an x1 u3 e3) (CutX.skip (CutX.skip (CutX.skip (CutX.take pO_f (CutX.take zO_f CutX.none))))) _ (gx_t (gx_t (gx_t (gx_h pO_o)))) rfl ⟨rfl, rfl⟩ ⟨Nat.le_of_ble_eq_true rfl, Nat.le_of_ble_eq_true rfl⟩ rfl ⟨Nat.le_of_ble_eq_true rfl, Nat.le_of_ble_eq_true rfl⟩ rfl (Nat.le_of_ble_eq_true rfl) dX8_limit_46 (fun H locs hw => ?_)
      obtain ⟨u4, e4, hf⟩ := bx hf
      refine r_callVi (ws' := (mO G am as_ ar ac an ath ah u4.2 ++ (hO G ah (rgA ads2 u2.2) u2.1 ++ (tO G an t_an ++ (pO G an u3.2.1 ++ (zO G an u3.2.2 ++ (eO G an e_an ++ (kO G ads2 u2.2 ++ [])))))))) (As := [.int u3.1]) (rest := []) C hw hl.1 kX8_answer ml_X8_99 (c_X8_answer l G am as_ ar ac an ath ah _ m_am u3.1 u4 e4) (CutX.take mO_f CutX.none) _ (gx_h mO_o) rfl ⟨rfl, rfl⟩ ⟨Nat.le_of_ble_eq_true rfl, Nat.le_of_ble_eq_true rfl⟩ rfl ⟨Nat.le_of_ble_eq_true rfl, Nat.le_of_ble_eq_true rfl⟩ rfl (Nat.le_of_ble_eq_true rfl) dX8_limit_49 (fun H locs hw => ?_)
      refine W.widen (k := 19) (n := 1368) (Nat.le_of_ble_eq_true rfl) (Nat.le_of_ble_eq_true rfl) ?_
      exact fin_iK C hw (Option.some.inj hf) (fun o => o.1) (fun o ads => (mO G am as_ ar ac an ath ah o.2.1 ++ (hO G ah (rgA ads o.2.2.2.2.2) o.2.2.1 ++ (tO G an t_an ++ (pO G an o.2.2.2.1 ++ (zO G an o.2.2.2.2.1 ++ (eO G an e_an ++ (kO G ads o.2.2.2.2.2 ++ [])))))))) ads2 rfl rfl dX8_limit_52
    · replace hf := ifn hf hc
      refine r_aload0 C hl 0 rfl dX8_limit_20 ?_
      refine lv_iconst (v := 2) C.1 C.2.1 dX8_limit_21 (by decide) ?_
      obtain ⟨u5, e5, hf⟩ := bx hf
      refine r_callVi (ws' := (mO G am as_ ar ac an ath ah u5.2 ++ (hO G ah (rgA ads rs) h_ah ++ (tO G an t_an ++ (pO G an p_an ++ (zO G an z_an ++ (eO G an e_an ++ (kO G ads rs ++ [])))))))) (As := [.int 2]) (rest := []) C hw hl.1 kX8_refuse ml_X8_63 (c_X8_refuse l G am as_ ar ac an ath ah _ m_am 2 u5 e5) (CutX.take mO_f CutX.none) _ (gx_h mO_o) rfl ⟨rfl, rfl⟩ ⟨Nat.le_of_ble_eq_true rfl, Nat.le_of_ble_eq_true rfl⟩ rfl ⟨Nat.le_of_ble_eq_true rfl, Nat.le_of_ble_eq_true rfl⟩ rfl (Nat.le_of_ble_eq_true rfl) dX8_limit_22 (fun H locs hw => ?_)
      refine W.widen (k := 19) (n := 1368) (Nat.le_of_ble_eq_true rfl) (Nat.le_of_ble_eq_true rfl) ?_
      exact fin_iK C hw (Option.some.inj hf) (fun o => o.1) (fun o ads => (mO G am as_ ar ac an ath ah o.2.1 ++ (hO G ah (rgA ads o.2.2.2.2.2) o.2.2.1 ++ (tO G an t_an ++ (pO G an o.2.2.2.1 ++ (zO G an o.2.2.2.2.1 ++ (eO G an e_an ++ (kO G ads o.2.2.2.2.2 ++ [])))))))) ads rfl rfl dX8_limit_25
  · replace hf := ifp hf hc
    refine r_aload0 C hl 0 rfl dX8_limit_7 ?_
    refine lv_iconst (v := 1) C.1 C.2.1 dX8_limit_8 (by decide) ?_
    obtain ⟨u6, e6, hf⟩ := bx hf
    refine r_callVi (ws' := (mO G am as_ ar ac an ath ah u6.2 ++ (hO G ah (rgA ads rs) h_ah ++ (tO G an t_an ++ (pO G an p_an ++ (zO G an z_an ++ (eO G an e_an ++ (kO G ads rs ++ [])))))))) (As := [.int 1]) (rest := []) C hw hl.1 kX8_refuse ml_X8_63 (c_X8_refuse l G am as_ ar ac an ath ah _ m_am 1 u6 e6) (CutX.take mO_f CutX.none) _ (gx_h mO_o) rfl ⟨rfl, rfl⟩ ⟨Nat.le_of_ble_eq_true rfl, Nat.le_of_ble_eq_true rfl⟩ rfl ⟨Nat.le_of_ble_eq_true rfl, Nat.le_of_ble_eq_true rfl⟩ rfl (Nat.le_of_ble_eq_true rfl) dX8_limit_9 (fun H locs hw => ?_)
    refine W.widen (k := 19) (n := 1368) (Nat.le_of_ble_eq_true rfl) (Nat.le_of_ble_eq_true rfl) ?_
    exact fin_iK C hw (Option.some.inj hf) (fun o => o.1) (fun o ads => (mO G am as_ ar ac an ath ah o.2.1 ++ (hO G ah (rgA ads o.2.2.2.2.2) o.2.2.1 ++ (tO G an t_an ++ (pO G an o.2.2.2.1 ++ (zO G an o.2.2.2.2.1 ++ (eO G an e_an ++ (kO G ads o.2.2.2.2.2 ++ [])))))))) ads rfl rfl dX8_limit_12
set_option maxHeartbeats 4000000 in
set_option maxRecDepth 100000 in
theorem c_X8_compact (l : Launch) (G : GG) (am : Nat → Nat) (as_ : Nat → Nat) (ar : Nat → Nat) (ac : Nat → Nat) (an : Nat → Nat) (ath : Nat → Nat) (ah : Nat → Nat) (ads : Nat → Nat → Nat) (sz : Nat) (m_am : Pic) (h_ah : Pic) (t_an : Pic) (p_an : Pic) (z_an : Pic) (e_an : Pic) (rs : Nat → Option Q4)  (out : Int32 × Pic × Pic × Pic × Pic × (Nat → Option Q4)) (hf : f_X8_compact m_am h_ah t_an p_an z_an e_an rs = some out) : Met l yX8_compact (.code yX8_compact cX8_compact 1 (some .int) :: BT) ({ frames := 5, cells := 19, slots := 1368, locals := 113 }) (va_Pc [.ref (am 99)] (PreN G sz (mO G am as_ ar ac an ath ah m_am ++ (hO G ah (rgA ads rs) h_ah ++ (tO G an t_an ++ (pO G an p_an ++ (zO G an z_an ++ (eO G an e_an ++ (kO G ads rs ++ []))))))))) (AnsK G out.1 (va_A (mO G am as_ ar ac an ath ah m_am ++ (hO G ah (rgA ads rs) h_ah ++ (tO G an t_an ++ (pO G an p_an ++ (zO G an z_an ++ (eO G an e_an ++ (kO G ads rs ++ []))))))) sz) (fun ads => (mO G am as_ ar ac an ath ah out.2.1 ++ (hO G ah (rgA ads out.2.2.2.2.2) out.2.2.1 ++ (tO G an t_an ++ (pO G an out.2.2.2.1 ++ (zO G an out.2.2.2.2.1 ++ (eO G an e_an ++ (kO G ads out.2.2.2.2.2 ++ []))))))))) 19 1368 (va_A (mO G am as_ ar ac an ath ah m_am ++ (hO G ah (rgA ads rs) h_ah ++ (tO G an t_an ++ (pO G an p_an ++ (zO G an z_an ++ (eO G an e_an ++ (kO G ads rs ++ []))))))) sz) := by
  refine Met.intoN (by decide) (Nat.le_of_ble_eq_true rfl) ?_
  intro p e s m below meth c C hsz hq ls hl hw
  have hl : lv_has ls 1 [(0, .ref (am 99))] := hl
  clear hsz
  generalize va_A (mO G am as_ ar ac an ath ah m_am ++ (hO G ah (rgA ads rs) h_ah ++ (tO G an t_an ++ (pO G an p_an ++ (zO G an z_an ++ (eO G an e_an ++ (kO G ads rs ++ []))))))) sz = A at hw ⊢
  unfold f_X8_compact at hf
  refine r_aload0 C hl 0 rfl dX8_compact_0 ?_
  refine r_get C hw _ (gx_h mO_o) 2 fl_X8_85 rfl dX8_compact_1 ?_
  refine lv_if_ne (tgt := 13) C.1 C.2.1 dX8_compact_4 (by decide) (fun hc => ?_) (fun hc => ?_)
  · replace hf := ifn hf hc
    refine r_aload0 C hl 0 rfl dX8_compact_13 ?_
    refine r_get C hw _ (gx_h mO_o) 11 fl_X8_51 rfl dX8_compact_14 ?_
    refine r_aload0 C hl 0 rfl dX8_compact_17 ?_
    refine r_get C hw _ (gx_h mO_o) 9 fl_X8_37 rfl dX8_compact_18 ?_
    obtain ⟨u1, e1, hf⟩ := bx hf
    refine r_keep (wr := mO G am as_ ar ac an ath ah m_am ++ ([])) C hq (by simpa only [kW, List.append_assoc, List.nil_append, List.append_nil] using hw) hl.1 ml_X8_324 (c_X2_keep l G ah an ads _ h_ah rs t_an p_an z_an e_an u1 e1) ⟨Nat.le_of_ble_eq_true rfl, Nat.le_of_ble_eq_true rfl⟩ ⟨Nat.le_of_ble_eq_true rfl, Nat.le_of_ble_eq_true rfl⟩ (Nat.le_of_ble_eq_true rfl) dX8_compact_21 (fun ads1 H locs hw => ?_)
    have hw : Wd G A s H locs (mO G am as_ ar ac an ath ah m_am ++ (hO G ah (rgA ads1 u1.2) u1.1 ++ (tO G an t_an ++ (pO G an p_an ++ (zO G an z_an ++ (eO G an e_an ++ (kO G ads1 u1.2 ++ []))))))) := by simpa only [kW, List.append_assoc, List.nil_append, List.append_nil] using hw
    refine r_aload0 C hl 0 rfl dX8_compact_24 ?_
    refine r_aload0 C hl 0 rfl dX8_compact_25 ?_
    refine r_get C hw _ (gx_h mO_o) 9 fl_X8_37 rfl dX8_compact_26 ?_
    refine r_get C hw _ (gx_t (gx_t (gx_h tO_o))) 2 fl_X8_105 rfl dX8_compact_29 ?_
    obtain ⟨u2, e2, hf⟩ := bx hf
    refine r_callVi (ws' := (mO G am as_ ar ac an ath ah m_am ++ (hO G ah (rgA ads1 u1.2) u1.1 ++ (tO G an t_an ++ (pO G an u2.2.1 ++ (zO G an u2.2.2 ++ (eO G an e_an ++ (kO G ads1 u1.2 ++ [])))))))) (As := []) (rest := [.ref (am 99)]) C hw hl.1 kX3_compactAll ml_X8_219 (c_X3_compactAll l G an _ p_an z_an u2 e2) (CutX.skip (CutX.skip (CutX.skip (CutX.take pO_f (CutX.take zO_f CutX.none))))) _ (gx_t (gx_t (gx_t (gx_h pO_o)))) rfl ⟨rfl, rfl⟩ ⟨Nat.le_of_ble_eq_true rfl, Nat.le_of_ble_eq_true rfl⟩ rfl ⟨Nat.le_of_ble_eq_true rfl, Nat.le_of_ble_eq_true rfl⟩ rfl (Nat.le_of_ble_eq_true rfl) dX8_compact_32 (fun H locs hw => ?_)
    obtain ⟨u3, e3, hf⟩ := bx hf
    refine r_callVi (ws' := (mO G am as_ ar ac an ath ah u3.2 ++ (hO G ah (rgA ads1 u1.2) u1.1 ++ (tO G an t_an ++ (pO G an u2.2.1 ++ (zO G an u2.2.2 ++ (eO G an e_an ++ (kO G ads1 u1.2 ++ [])))))))) (As := [.int u2.1]) (rest := []) C hw hl.1 kX8_answer ml_X8_99 (c_X8_answer l G am as_ ar ac an ath ah _ m_am u2.1 u3 e3) (CutX.take mO_f CutX.none) _ (gx_h mO_o) rfl ⟨rfl, rfl⟩ ⟨Nat.le_of_ble_eq_true rfl, Nat.le_of_ble_eq_true rfl⟩ rfl ⟨Nat.le_of_ble_eq_true rfl, Nat.le_of_ble_eq_true rfl⟩ rfl (Nat.le_of_ble_eq_true rfl) dX8_compact_35 (fun H locs hw => ?_)
    refine W.widen (k := 19) (n := 1368) (Nat.le_of_ble_eq_true rfl) (Nat.le_of_ble_eq_true rfl) ?_
    exact fin_iK C hw (Option.some.inj hf) (fun o => o.1) (fun o ads => (mO G am as_ ar ac an ath ah o.2.1 ++ (hO G ah (rgA ads o.2.2.2.2.2) o.2.2.1 ++ (tO G an t_an ++ (pO G an o.2.2.2.1 ++ (zO G an o.2.2.2.2.1 ++ (eO G an e_an ++ (kO G ads o.2.2.2.2.2 ++ [])))))))) ads1 rfl rfl dX8_compact_38
  · replace hf := ifp hf hc
    refine r_aload0 C hl 0 rfl dX8_compact_7 ?_
    refine lv_iconst (v := 1) C.1 C.2.1 dX8_compact_8 (by decide) ?_
    obtain ⟨u4, e4, hf⟩ := bx hf
    refine r_callVi (ws' := (mO G am as_ ar ac an ath ah u4.2 ++ (hO G ah (rgA ads rs) h_ah ++ (tO G an t_an ++ (pO G an p_an ++ (zO G an z_an ++ (eO G an e_an ++ (kO G ads rs ++ [])))))))) (As := [.int 1]) (rest := []) C hw hl.1 kX8_refuse ml_X8_63 (c_X8_refuse l G am as_ ar ac an ath ah _ m_am 1 u4 e4) (CutX.take mO_f CutX.none) _ (gx_h mO_o) rfl ⟨rfl, rfl⟩ ⟨Nat.le_of_ble_eq_true rfl, Nat.le_of_ble_eq_true rfl⟩ rfl ⟨Nat.le_of_ble_eq_true rfl, Nat.le_of_ble_eq_true rfl⟩ rfl (Nat.le_of_ble_eq_true rfl) dX8_compact_9 (fun H locs hw => ?_)
    refine W.widen (k := 19) (n := 1368) (Nat.le_of_ble_eq_true rfl) (Nat.le_of_ble_eq_true rfl) ?_
    exact fin_iK C hw (Option.some.inj hf) (fun o => o.1) (fun o ads => (mO G am as_ ar ac an ath ah o.2.1 ++ (hO G ah (rgA ads o.2.2.2.2.2) o.2.2.1 ++ (tO G an t_an ++ (pO G an o.2.2.2.1 ++ (zO G an o.2.2.2.2.1 ++ (eO G an e_an ++ (kO G ads o.2.2.2.2.2 ++ [])))))))) ads rfl rfl dX8_compact_12
set_option maxHeartbeats 4000000 in
set_option maxRecDepth 100000 in
theorem c_X8_run (l : Launch) (G : GG) (am : Nat → Nat) (as_ : Nat → Nat) (ar : Nat → Nat) (ac : Nat → Nat) (an : Nat → Nat) (ath : Nat → Nat) (ah : Nat → Nat) (ads : Nat → Nat → Nat) (sz : Nat) (m_am : Pic) (s_as_ : Pic) (h_ah : Pic) (t_an : Pic) (p_an : Pic) (z_an : Pic) (e_an : Pic) (rs : Nat → Option Q4) (x1 : Int32) (x2 : Int32) (out : Int32 × Pic × Pic × Pic × Pic × (Nat → Option Q4)) (hf : f_X8_run m_am s_as_ h_ah t_an p_an z_an e_an rs x1 x2 = some out) : Met l yX8_run (.code yX8_run cX8_run 5 (some .int) :: BT) ({ frames := 6, cells := 19, slots := 1368, locals := 141 }) (va_Pc [.ref (am 99), .int x1, .int x2] (PreN G sz (mO G am as_ ar ac an ath ah m_am ++ (sO G as_ s_as_ ++ (hO G ah (rgA ads rs) h_ah ++ (tO G an t_an ++ (pO G an p_an ++ (zO G an z_an ++ (eO G an e_an ++ (kO G ads rs ++ [])))))))))) (AnsK G out.1 (va_A (mO G am as_ ar ac an ath ah m_am ++ (sO G as_ s_as_ ++ (hO G ah (rgA ads rs) h_ah ++ (tO G an t_an ++ (pO G an p_an ++ (zO G an z_an ++ (eO G an e_an ++ (kO G ads rs ++ [])))))))) sz) (fun ads => (mO G am as_ ar ac an ath ah out.2.1 ++ (sO G as_ s_as_ ++ (hO G ah (rgA ads out.2.2.2.2.2) out.2.2.1 ++ (tO G an t_an ++ (pO G an out.2.2.2.1 ++ (zO G an out.2.2.2.2.1 ++ (eO G an e_an ++ (kO G ads out.2.2.2.2.2 ++ [])))))))))) 19 1368 (va_A (mO G am as_ ar ac an ath ah m_am ++ (sO G as_ s_as_ ++ (hO G ah (rgA ads rs) h_ah ++ (tO G an t_an ++ (pO G an p_an ++ (zO G an z_an ++ (eO G an e_an ++ (kO G ads rs ++ [])))))))) sz) := by
  refine Met.intoN (by decide) (Nat.le_of_ble_eq_true rfl) ?_
  intro p e s m below meth c C hsz hq ls hl hw
  have hl : lv_has ls 5 [(0, .ref (am 99)), (1, .int x1), (2, .int x2)] := hl
  clear hsz
  generalize va_A (mO G am as_ ar ac an ath ah m_am ++ (sO G as_ s_as_ ++ (hO G ah (rgA ads rs) h_ah ++ (tO G an t_an ++ (pO G an p_an ++ (zO G an z_an ++ (eO G an e_an ++ (kO G ads rs ++ [])))))))) sz = A at hw ⊢
  have hB_25 : ∀ (m_am : Pic) (h_ah : Pic) (p_an : Pic) (z_an : Pic) (rs : Nat → Option Q4), b_X8_run_25 s_as_ t_an e_an x1 x2  m_am h_ah p_an z_an rs = some out → ∀ (ads : Nat → Nat → Nat) (H : Heap) (locs : List Loc), Wd G A s H locs (mO G am as_ ar ac an ath ah m_am ++ (sO G as_ s_as_ ++ (hO G ah (rgA ads rs) h_ah ++ (tO G an t_an ++ (pO G an p_an ++ (zO G an z_an ++ (eO G an e_an ++ (kO G ads rs ++ [])))))))) → ∀ ls : Array Slot, lv_has ls 5 [(0, .ref (am 99))] → W p l e ({ frames := 6, cells := 19, slots := 1368, locals := 141 }) s m [.ref (am 99), .int x1, .int x2].toArray below meth c H locs 0 0 (MQ below (AnsK G out.1 A (fun ads => (mO G am as_ ar ac an ath ah out.2.1 ++ (sO G as_ s_as_ ++ (hO G ah (rgA ads out.2.2.2.2.2) out.2.2.1 ++ (tO G an t_an ++ (pO G an out.2.2.2.1 ++ (zO G an out.2.2.2.2.1 ++ (eO G an e_an ++ (kO G ads out.2.2.2.2.2 ++ [])))))))))) [.ref (am 99), .int x1, .int x2].toArray s 19 1368 A) (F0 m 25 ls []) := by
    intro m_am h_ah p_an z_an rs hf ads H locs hw ls hl
    unfold b_X8_run_25 at hf
    refine r_aload0 C hl 0 rfl dX8_run_25 ?_
    refine lv_iconst (v := 2) C.1 C.2.1 dX8_run_26 (by decide) ?_
    obtain ⟨u2, e2, hf⟩ := bx hf
    refine r_callVi (ws' := (mO G am as_ ar ac an ath ah u2.2 ++ (sO G as_ s_as_ ++ (hO G ah (rgA ads rs) h_ah ++ (tO G an t_an ++ (pO G an p_an ++ (zO G an z_an ++ (eO G an e_an ++ (kO G ads rs ++ []))))))))) (As := [.int 2]) (rest := []) C hw hl.1 kX8_refuse ml_X8_63 (c_X8_refuse l G am as_ ar ac an ath ah _ m_am 2 u2 e2) (CutX.take mO_f CutX.none) _ (gx_h mO_o) rfl ⟨rfl, rfl⟩ ⟨Nat.le_of_ble_eq_true rfl, Nat.le_of_ble_eq_true rfl⟩ rfl ⟨Nat.le_of_ble_eq_true rfl, Nat.le_of_ble_eq_true rfl⟩ rfl (Nat.le_of_ble_eq_true rfl) dX8_run_27 (fun H locs hw => ?_)
    refine W.widen (k := 19) (n := 1368) (Nat.le_of_ble_eq_true rfl) (Nat.le_of_ble_eq_true rfl) ?_
    exact fin_iK C hw (Option.some.inj hf) (fun o => o.1) (fun o ads => (mO G am as_ ar ac an ath ah o.2.1 ++ (sO G as_ s_as_ ++ (hO G ah (rgA ads o.2.2.2.2.2) o.2.2.1 ++ (tO G an t_an ++ (pO G an o.2.2.2.1 ++ (zO G an o.2.2.2.2.1 ++ (eO G an e_an ++ (kO G ads o.2.2.2.2.2 ++ []))))))))) ads rfl rfl dX8_run_30
  have hB_59 : ∀ (k59 : Pic → Pic → Pic → Pic → (Nat → Option Q4) → Int32 → Int32 → Option (Int32 × Pic × Pic × Pic × Pic × (Nat → Option Q4))) (hk59 : ∀ (m_am : Pic) (h_ah : Pic) (p_an : Pic) (z_an : Pic) (rs : Nat → Option Q4) (v3 : Int32) (v4 : Int32), k59 m_am h_ah p_an z_an rs v3 v4 = some out → ∀ (ads : Nat → Nat → Nat) (H : Heap) (locs : List Loc), Wd G A s H locs (mO G am as_ ar ac an ath ah m_am ++ (sO G as_ s_as_ ++ (hO G ah (rgA ads rs) h_ah ++ (tO G an t_an ++ (pO G an p_an ++ (zO G an z_an ++ (eO G an e_an ++ (kO G ads rs ++ [])))))))) → ∀ ls : Array Slot, lv_has ls 5 [(0, .ref (am 99)), (1, .int x1), (3, .int v3), (4, .int v4)] → W p l e ({ frames := 6, cells := 19, slots := 1368, locals := 141 }) s m [.ref (am 99), .int x1, .int x2].toArray below meth c H locs 19 1368 (MQ below (AnsK G out.1 A (fun ads => (mO G am as_ ar ac an ath ah out.2.1 ++ (sO G as_ s_as_ ++ (hO G ah (rgA ads out.2.2.2.2.2) out.2.2.1 ++ (tO G an t_an ++ (pO G an out.2.2.2.1 ++ (zO G an out.2.2.2.2.1 ++ (eO G an e_an ++ (kO G ads out.2.2.2.2.2 ++ [])))))))))) [.ref (am 99), .int x1, .int x2].toArray s 19 1368 A) (F0 m 59 ls [])), ∀ (m_am : Pic) (h_ah : Pic) (p_an : Pic) (z_an : Pic) (rs : Nat → Option Q4) (v3 : Int32) (v4 : Int32), b_X8_run_59 s_as_ t_an e_an x1 x2 k59 m_am h_ah p_an z_an rs v3 v4 = some out → ∀ (ads : Nat → Nat → Nat) (H : Heap) (locs : List Loc), Wd G A s H locs (mO G am as_ ar ac an ath ah m_am ++ (sO G as_ s_as_ ++ (hO G ah (rgA ads rs) h_ah ++ (tO G an t_an ++ (pO G an p_an ++ (zO G an z_an ++ (eO G an e_an ++ (kO G ads rs ++ [])))))))) → ∀ ls : Array Slot, lv_has ls 5 [(0, .ref (am 99)), (1, .int x1), (3, .int v3), (4, .int v4)] → W p l e ({ frames := 6, cells := 19, slots := 1368, locals := 141 }) s m [.ref (am 99), .int x1, .int x2].toArray below meth c H locs 19 1368 (MQ below (AnsK G out.1 A (fun ads => (mO G am as_ ar ac an ath ah out.2.1 ++ (sO G as_ s_as_ ++ (hO G ah (rgA ads out.2.2.2.2.2) out.2.2.1 ++ (tO G an t_an ++ (pO G an out.2.2.2.1 ++ (zO G an out.2.2.2.2.1 ++ (eO G an e_an ++ (kO G ads out.2.2.2.2.2 ++ [])))))))))) [.ref (am 99), .int x1, .int x2].toArray s 19 1368 A) (F0 m 59 ls []) := by
    intro k59 hk59 m_am h_ah p_an z_an rs v3 v4 hf ads H locs hw ls hl
    unfold b_X8_run_59 at hf
    refine r_iload C hl 3 rfl dX8_run_59 ?_
    refine r_iload0 C hl 2 rfl dX8_run_61 ?_
    refine lv_icmp_ge (tgt := 84) C.1 C.2.1 dX8_run_62 (by decide) (fun hc => ?_) (fun hc => ?_)
    · replace hf := ifp hf hc
      refine r_aload0 C hl 0 rfl dX8_run_84 ?_
      refine r_iload0 C hl 2 rfl dX8_run_85 ?_
      refine r_iload0 C hl 1 rfl dX8_run_86 ?_
      refine lv_isub C.1 C.2.1 dX8_run_87 ?_
      obtain ⟨u5, e5, hf⟩ := bx hf
      refine r_callVi (ws' := (mO G am as_ ar ac an ath ah u5.2 ++ (sO G as_ s_as_ ++ (hO G ah (rgA ads rs) h_ah ++ (tO G an t_an ++ (pO G an p_an ++ (zO G an z_an ++ (eO G an e_an ++ (kO G ads rs ++ []))))))))) (As := [.int (v3 - x1)]) (rest := []) C hw hl.1 kX8_answer ml_X8_99 (c_X8_answer l G am as_ ar ac an ath ah _ m_am (v3 - x1) u5 e5) (CutX.take mO_f CutX.none) _ (gx_h mO_o) rfl ⟨rfl, rfl⟩ ⟨Nat.le_of_ble_eq_true rfl, Nat.le_of_ble_eq_true rfl⟩ rfl ⟨Nat.le_of_ble_eq_true rfl, Nat.le_of_ble_eq_true rfl⟩ rfl (Nat.le_of_ble_eq_true rfl) dX8_run_88 (fun H locs hw => ?_)
      refine W.widen (k := 19) (n := 1368) (Nat.le_of_ble_eq_true rfl) (Nat.le_of_ble_eq_true rfl) ?_
      exact fin_iK C hw (Option.some.inj hf) (fun o => o.1) (fun o ads => (mO G am as_ ar ac an ath ah o.2.1 ++ (sO G as_ s_as_ ++ (hO G ah (rgA ads o.2.2.2.2.2) o.2.2.1 ++ (tO G an t_an ++ (pO G an o.2.2.2.1 ++ (zO G an o.2.2.2.2.1 ++ (eO G an e_an ++ (kO G ads o.2.2.2.2.2 ++ []))))))))) ads rfl rfl dX8_run_91
    · replace hf := ifn hf hc
      refine r_aload0 C hl 0 rfl dX8_run_65 ?_
      refine r_aload0 C hl 0 rfl dX8_run_66 ?_
      refine r_get C hw _ (gx_h mO_o) 9 fl_X8_37 rfl dX8_run_67 ?_
      refine r_get C hw _ (gx_t (gx_t (gx_t (gx_h tO_o)))) 2 fl_X8_105 rfl dX8_run_70 ?_
      refine r_iload C hl 3 rfl dX8_run_73 ?_
      obtain ⟨u6, e6, hf⟩ := bx hf
      refine r_callVv (ws' := (mO G am as_ ar ac an ath ah m_am ++ (sO G as_ s_as_ ++ (hO G ah (rgA ads rs) h_ah ++ (tO G an t_an ++ (pO G an u6.1 ++ (zO G an u6.2 ++ (eO G an e_an ++ (kO G ads rs ++ []))))))))) (As := [.ref (an 99), .int v4]) (rest := []) C hw hl.1 kX8_perform ml_X8_351 (c_X8_perform l G am as_ ar ac an ath ah an _ m_am s_as_ t_an p_an z_an e_an v4 u6 e6) (CutX.take mO_f (CutX.take sO_f (CutX.skip (CutX.take tO_f (CutX.take pO_f (CutX.take zO_f (CutX.take eO_f CutX.none))))))) _ (gx_h mO_o) rfl ⟨rfl, rfl⟩ ⟨Nat.le_of_ble_eq_true rfl, Nat.le_of_ble_eq_true rfl⟩ rfl ⟨Nat.le_of_ble_eq_true rfl, Nat.le_of_ble_eq_true rfl⟩ rfl (Nat.le_of_ble_eq_true rfl) dX8_run_75 (fun H locs hw => ?_)
      refine r_iinc C hl 3 (v4 + 1) [(4, .int (v4 + 1)), (0, .ref (am 99)), (1, .int x1), (3, .int v3)] rfl (iinc_e (by decide)) (by decide) rfl dX8_run_78 (fun ls hl => ?_)
      refine lv_goto (tgt := 59) C.1 C.2.1 dX8_run_81 (by decide) ?_
      exact hk59 m_am h_ah u6.1 u6.2 rs v3 (v4 + 1) hf _ _ _ hw _ (lv_sub hl [1, 2, 3, 0] rfl)
  have hL_59 : ∀ n : Nat, ∀ (m_am : Pic) (h_ah : Pic) (p_an : Pic) (z_an : Pic) (rs : Nat → Option Q4) (v3 : Int32) (v4 : Int32), L_X8_run_59 s_as_ t_an e_an x1 x2  n m_am h_ah p_an z_an rs v3 v4 = some out → ∀ (ads : Nat → Nat → Nat) (H : Heap) (locs : List Loc), Wd G A s H locs (mO G am as_ ar ac an ath ah m_am ++ (sO G as_ s_as_ ++ (hO G ah (rgA ads rs) h_ah ++ (tO G an t_an ++ (pO G an p_an ++ (zO G an z_an ++ (eO G an e_an ++ (kO G ads rs ++ [])))))))) → ∀ ls : Array Slot, lv_has ls 5 [(0, .ref (am 99)), (1, .int x1), (3, .int v3), (4, .int v4)] → W p l e ({ frames := 6, cells := 19, slots := 1368, locals := 141 }) s m [.ref (am 99), .int x1, .int x2].toArray below meth c H locs 19 1368 (MQ below (AnsK G out.1 A (fun ads => (mO G am as_ ar ac an ath ah out.2.1 ++ (sO G as_ s_as_ ++ (hO G ah (rgA ads out.2.2.2.2.2) out.2.2.1 ++ (tO G an t_an ++ (pO G an out.2.2.2.1 ++ (zO G an out.2.2.2.2.1 ++ (eO G an e_an ++ (kO G ads out.2.2.2.2.2 ++ [])))))))))) [.ref (am 99), .int x1, .int x2].toArray s 19 1368 A) (F0 m 59 ls []) := by
    intro  n
    induction n with
    | zero => intro m_am h_ah p_an z_an rs v3 v4 hf; cases hf
    | succ n ih => exact hB_59 _ ih
  unfold f_X8_run at hf
  refine r_aload0 C hl 0 rfl dX8_run_0 ?_
  refine r_iload0 C hl 1 rfl dX8_run_1 ?_
  obtain ⟨u1, e1, hf⟩ := bx hf
  refine r_callVi (ws' := (mO G am as_ ar ac an ath ah m_am ++ (sO G as_ s_as_ ++ (hO G ah (rgA ads rs) h_ah ++ (tO G an t_an ++ (pO G an p_an ++ (zO G an z_an ++ (eO G an e_an ++ (kO G ads rs ++ []))))))))) (As := [.int x1]) (rest := []) C hw hl.1 kX8_noOp ml_X8_312 (c_X8_noOp l G am as_ ar ac an ath ah _ m_am s_as_ x1 u1 e1) (CutX.take mO_f (CutX.take sO_f CutX.none)) _ (gx_h mO_o) rfl ⟨rfl, rfl⟩ ⟨Nat.le_of_ble_eq_true rfl, Nat.le_of_ble_eq_true rfl⟩ rfl ⟨Nat.le_of_ble_eq_true rfl, Nat.le_of_ble_eq_true rfl⟩ rfl (Nat.le_of_ble_eq_true rfl) dX8_run_2 (fun H locs hw => ?_)
  refine lv_if_eq (tgt := 14) C.1 C.2.1 dX8_run_5 (by decide) (fun hc => ?_) (fun hc => ?_)
  · replace hf := ifp hf hc
    refine r_iload0 C hl 2 rfl dX8_run_14 ?_
    refine lv_iconst (v := 1) C.1 C.2.1 dX8_run_15 (by decide) ?_
    refine lv_icmp_lt (tgt := 25) C.1 C.2.1 dX8_run_16 (by decide) (fun hc => ?_) (fun hc => ?_)
    · replace hf := ifp hf hc
      exact hB_25  m_am h_ah p_an z_an rs hf _ _ _ hw _ (lv_sub hl [0] rfl)
    · replace hf := ifn hf hc
      refine r_iload0 C hl 2 rfl dX8_run_19 ?_
      refine lv_bipush (v := 24) C.1 C.2.1 dX8_run_20 (by decide) ?_
      refine lv_icmp_le (tgt := 31) C.1 C.2.1 dX8_run_22 (by decide) (fun hc => ?_) (fun hc => ?_)
      · replace hf := ifp hf hc
        refine r_aload0 C hl 0 rfl dX8_run_31 ?_
        refine r_get C hw _ (gx_h mO_o) 11 fl_X8_51 rfl dX8_run_32 ?_
        refine r_aload0 C hl 0 rfl dX8_run_35 ?_
        refine r_get C hw _ (gx_h mO_o) 9 fl_X8_37 rfl dX8_run_36 ?_
        obtain ⟨u3, e3, hf⟩ := bx hf
        refine r_keep (wr := mO G am as_ ar ac an ath ah m_am ++ (sO G as_ s_as_ ++ ([]))) C hq (by simpa only [kW, List.append_assoc, List.nil_append, List.append_nil] using hw) hl.1 ml_X8_324 (c_X2_keep l G ah an ads _ h_ah rs t_an p_an z_an e_an u3 e3) ⟨Nat.le_of_ble_eq_true rfl, Nat.le_of_ble_eq_true rfl⟩ ⟨Nat.le_of_ble_eq_true rfl, Nat.le_of_ble_eq_true rfl⟩ (Nat.le_of_ble_eq_true rfl) dX8_run_39 (fun ads3 H locs hw => ?_)
        have hw : Wd G A s H locs (mO G am as_ ar ac an ath ah m_am ++ (sO G as_ s_as_ ++ (hO G ah (rgA ads3 u3.2) u3.1 ++ (tO G an t_an ++ (pO G an p_an ++ (zO G an z_an ++ (eO G an e_an ++ (kO G ads3 u3.2 ++ [])))))))) := by simpa only [kW, List.append_assoc, List.nil_append, List.append_nil] using hw
        refine r_aload0 C hl 0 rfl dX8_run_42 ?_
        refine r_get C hw _ (gx_h mO_o) 6 fl_X8_16 rfl dX8_run_43 ?_
        refine r_get C hw _ (gx_t (gx_h sO_o)) 4 fl_X8_117 rfl dX8_run_46 ?_
        refine r_iload0 C hl 1 rfl dX8_run_49 ?_
        refine r_iload0 C hl 2 rfl dX8_run_50 ?_
        refine lv_iadd C.1 C.2.1 dX8_run_51 ?_
        refine r_min C hl.1 ml_X8_348 (Nat.le_of_ble_eq_true rfl) (Nat.le_of_ble_eq_true rfl) ⟨Nat.le_of_ble_eq_true rfl, Nat.le_of_ble_eq_true rfl⟩ dX8_run_52 ?_
        refine r_istore0 C hl [(3, .int (if (x1 + x2) < (gS s_as_ 4) then (x1 + x2) else (gS s_as_ 4))), (0, .ref (am 99)), (1, .int x1), (2, .int x2)] (by decide) rfl dX8_run_55 (fun ls hl => ?_)
        refine r_iload0 C hl 2 rfl dX8_run_56 ?_
        refine r_istore C hl [(4, .int x1), (3, .int (if (x1 + x2) < (gS s_as_ 4) then (x1 + x2) else (gS s_as_ 4))), (0, .ref (am 99)), (1, .int x1), (2, .int x2)] (by decide) rfl dX8_run_57 (fun ls hl => ?_)
        exact hL_59  FU m_am u3.1 p_an z_an u3.2 (if (x1 + x2) < (gS s_as_ 4) then (x1 + x2) else (gS s_as_ 4)) x1 hf _ _ _ hw _ (lv_sub hl [2, 3, 1, 0] rfl)
      · replace hf := ifn hf hc
        exact hB_25  m_am h_ah p_an z_an rs hf _ _ _ hw _ (lv_sub hl [0] rfl)
  · replace hf := ifn hf hc
    refine r_aload0 C hl 0 rfl dX8_run_8 ?_
    refine lv_iconst (v := 1) C.1 C.2.1 dX8_run_9 (by decide) ?_
    obtain ⟨u7, e7, hf⟩ := bx hf
    refine r_callVi (ws' := (mO G am as_ ar ac an ath ah u7.2 ++ (sO G as_ s_as_ ++ (hO G ah (rgA ads rs) h_ah ++ (tO G an t_an ++ (pO G an p_an ++ (zO G an z_an ++ (eO G an e_an ++ (kO G ads rs ++ []))))))))) (As := [.int 1]) (rest := []) C hw hl.1 kX8_refuse ml_X8_63 (c_X8_refuse l G am as_ ar ac an ath ah _ m_am 1 u7 e7) (CutX.take mO_f CutX.none) _ (gx_h mO_o) rfl ⟨rfl, rfl⟩ ⟨Nat.le_of_ble_eq_true rfl, Nat.le_of_ble_eq_true rfl⟩ rfl ⟨Nat.le_of_ble_eq_true rfl, Nat.le_of_ble_eq_true rfl⟩ rfl (Nat.le_of_ble_eq_true rfl) dX8_run_10 (fun H locs hw => ?_)
    refine W.widen (k := 19) (n := 1368) (Nat.le_of_ble_eq_true rfl) (Nat.le_of_ble_eq_true rfl) ?_
    exact fin_iK C hw (Option.some.inj hf) (fun o => o.1) (fun o ads => (mO G am as_ ar ac an ath ah o.2.1 ++ (sO G as_ s_as_ ++ (hO G ah (rgA ads o.2.2.2.2.2) o.2.2.1 ++ (tO G an t_an ++ (pO G an o.2.2.2.1 ++ (zO G an o.2.2.2.2.1 ++ (eO G an e_an ++ (kO G ads o.2.2.2.2.2 ++ []))))))))) ads rfl rfl dX8_run_13
set_option maxHeartbeats 4000000 in
set_option maxRecDepth 100000 in
theorem c_X8_undo (l : Launch) (G : GG) (am : Nat → Nat) (as_ : Nat → Nat) (ar : Nat → Nat) (ac : Nat → Nat) (an : Nat → Nat) (ath : Nat → Nat) (ah : Nat → Nat) (ads : Nat → Nat → Nat) (sz : Nat) (m_am : Pic) (h_ah : Pic) (t_an : Pic) (p_an : Pic) (z_an : Pic) (e_an : Pic) (rs : Nat → Option Q4)  (out : Int32 × Pic × Pic × Pic × Pic × Pic × Pic) (hf : f_X8_undo m_am h_ah t_an p_an z_an e_an rs = some out) : Met l yX8_undo (.code yX8_undo cX8_undo 1 (some .boolean) :: BT) ({ frames := 5, cells := 0, slots := 0, locals := 111 }) (va_Pc [.ref (am 99)] (PreW G sz (mO G am as_ ar ac an ath ah m_am ++ (hO G ah (rgA ads rs) h_ah ++ (tO G an t_an ++ (pO G an p_an ++ (zO G an z_an ++ (eO G an e_an ++ (kO G ads rs ++ []))))))))) (Ans G out.1 (va_A (mO G am as_ ar ac an ath ah m_am ++ (hO G ah (rgA ads rs) h_ah ++ (tO G an t_an ++ (pO G an p_an ++ (zO G an z_an ++ (eO G an e_an ++ (kO G ads rs ++ []))))))) sz) (mO G am as_ ar ac an ath ah out.2.1 ++ (hO G ah (rgA ads rs) out.2.2.1 ++ (tO G an out.2.2.2.1 ++ (pO G an out.2.2.2.2.1 ++ (zO G an out.2.2.2.2.2.1 ++ (eO G an out.2.2.2.2.2.2 ++ (kO G ads rs ++ [])))))))) 0 0 (va_A (mO G am as_ ar ac an ath ah m_am ++ (hO G ah (rgA ads rs) h_ah ++ (tO G an t_an ++ (pO G an p_an ++ (zO G an z_an ++ (eO G an e_an ++ (kO G ads rs ++ []))))))) sz) := by
  refine Met.into (by decide) (Nat.le_of_ble_eq_true rfl) ?_
  intro p e s m below meth c C hsz ls hl hw
  have hl : lv_has ls 1 [(0, .ref (am 99))] := hl
  clear hsz
  generalize va_A (mO G am as_ ar ac an ath ah m_am ++ (hO G ah (rgA ads rs) h_ah ++ (tO G an t_an ++ (pO G an p_an ++ (zO G an z_an ++ (eO G an e_an ++ (kO G ads rs ++ []))))))) sz = A at hw ⊢
  have hB_21 : ∀ (m_am : Pic) (h_ah : Pic) (t_an : Pic) (p_an : Pic) (z_an : Pic) (e_an : Pic), b_X8_undo_21 rs  m_am h_ah t_an p_an z_an e_an = some out → ∀ (H : Heap) (locs : List Loc), Wd G A s H locs (mO G am as_ ar ac an ath ah m_am ++ (hO G ah (rgA ads rs) h_ah ++ (tO G an t_an ++ (pO G an p_an ++ (zO G an z_an ++ (eO G an e_an ++ (kO G ads rs ++ []))))))) → ∀ ls : Array Slot, lv_has ls 1 [(0, .ref (am 99))] → W p l e ({ frames := 5, cells := 0, slots := 0, locals := 111 }) s m [.ref (am 99)].toArray below meth c H locs 0 0 (MQ below (Ans G out.1 A (mO G am as_ ar ac an ath ah out.2.1 ++ (hO G ah (rgA ads rs) out.2.2.1 ++ (tO G an out.2.2.2.1 ++ (pO G an out.2.2.2.2.1 ++ (zO G an out.2.2.2.2.2.1 ++ (eO G an out.2.2.2.2.2.2 ++ (kO G ads rs ++ [])))))))) [.ref (am 99)].toArray s 0 0 A) (F0 m 21 ls []) := by
    intro m_am h_ah t_an p_an z_an e_an hf H locs hw ls hl
    unfold b_X8_undo_21 at hf
    refine r_aload0 C hl 0 rfl dX8_undo_21 ?_
    refine lv_iconst (v := 1) C.1 C.2.1 dX8_undo_22 (by decide) ?_
    obtain ⟨u1, e1, hf⟩ := bx hf
    refine r_callVi (ws' := (mO G am as_ ar ac an ath ah u1.2 ++ (hO G ah (rgA ads rs) h_ah ++ (tO G an t_an ++ (pO G an p_an ++ (zO G an z_an ++ (eO G an e_an ++ (kO G ads rs ++ [])))))))) (As := [.int 1]) (rest := []) C hw hl.1 kX8_refuseFlatly ml_X8_338 (c_X8_refuseFlatly l G am as_ ar ac an ath ah _ m_am 1 u1 e1) (CutX.take mO_f CutX.none) _ (gx_h mO_o) rfl ⟨rfl, rfl⟩ ⟨Nat.le_of_ble_eq_true rfl, Nat.le_of_ble_eq_true rfl⟩ rfl ⟨Nat.zero_le _, Nat.zero_le _⟩ rfl (Nat.le_of_ble_eq_true rfl) dX8_undo_23 (fun H locs hw => ?_)
    obtain ⟨z2_, e2, hf⟩ := bx hf
    obtain rfl := okZ_in e2
    exact fin_z C hw e2 (Option.some.inj hf) (fun o => o.1) (fun o => (mO G am as_ ar ac an ath ah o.2.1 ++ (hO G ah (rgA ads rs) o.2.2.1 ++ (tO G an o.2.2.2.1 ++ (pO G an o.2.2.2.2.1 ++ (zO G an o.2.2.2.2.2.1 ++ (eO G an o.2.2.2.2.2.2 ++ (kO G ads rs ++ [])))))))) rfl rfl dX8_undo_26
  unfold f_X8_undo at hf
  refine r_aload0 C hl 0 rfl dX8_undo_0 ?_
  refine r_get C hw _ (gx_h mO_o) 2 fl_X8_85 rfl dX8_undo_1 ?_
  refine lv_if_eq (tgt := 21) C.1 C.2.1 dX8_undo_4 (by decide) (fun hc => ?_) (fun hc => ?_)
  · replace hf := ifp hf hc
    exact hB_21  m_am h_ah t_an p_an z_an e_an hf _ _ hw _ (lv_sub hl [0] rfl)
  · replace hf := ifn hf hc
    refine r_aload0 C hl 0 rfl dX8_undo_7 ?_
    refine r_get C hw _ (gx_h mO_o) 11 fl_X8_51 rfl dX8_undo_8 ?_
    refine r_aload0 C hl 0 rfl dX8_undo_11 ?_
    refine r_get C hw _ (gx_h mO_o) 9 fl_X8_37 rfl dX8_undo_12 ?_
    obtain ⟨u3, e3, hf⟩ := bx hf
    refine r_callVi (ws' := (mO G am as_ ar ac an ath ah m_am ++ (hO G ah (rgA ads rs) u3.2.1 ++ (tO G an u3.2.2.1 ++ (pO G an u3.2.2.2.1 ++ (zO G an u3.2.2.2.2.1 ++ (eO G an u3.2.2.2.2.2 ++ (kO G ads rs ++ [])))))))) (As := [.ref (an 299)]) (rest := []) C hw hl.1 kX2_takeBack ml_X8_355 (c_X2_takeBack l G ah an ads _ h_ah t_an p_an z_an e_an rs u3 e3) (CutX.skip (CutX.take hO_f (CutX.take tO_f (CutX.take pO_f (CutX.take zO_f (CutX.take eO_f (CutX.take kO_f CutX.none))))))) _ (gx_t (gx_h hO_o)) rfl ⟨rfl, rfl⟩ ⟨Nat.le_of_ble_eq_true rfl, Nat.le_of_ble_eq_true rfl⟩ rfl ⟨Nat.zero_le _, Nat.zero_le _⟩ rfl (Nat.le_of_ble_eq_true rfl) dX8_undo_15 (fun H locs hw => ?_)
    refine lv_if_ne (tgt := 27) C.1 C.2.1 dX8_undo_18 (by decide) (fun hc => ?_) (fun hc => ?_)
    · replace hf := ifn hf hc
      refine r_aload0 C hl 0 rfl dX8_undo_27 ?_
      obtain ⟨u4, e4, hf⟩ := bx hf
      refine r_callVi (ws' := (mO G am as_ ar ac an ath ah u4.2 ++ (hO G ah (rgA ads rs) u3.2.1 ++ (tO G an u3.2.2.1 ++ (pO G an u3.2.2.2.1 ++ (zO G an u3.2.2.2.2.1 ++ (eO G an u3.2.2.2.2.2 ++ (kO G ads rs ++ [])))))))) (As := []) (rest := []) C hw hl.1 kX8_agree ml_X8_341 (c_X8_agree l G am as_ ar ac an ath ah _ m_am u4 e4) (CutX.take mO_f CutX.none) _ (gx_h mO_o) rfl ⟨rfl, rfl⟩ ⟨Nat.le_of_ble_eq_true rfl, Nat.le_of_ble_eq_true rfl⟩ rfl ⟨Nat.zero_le _, Nat.zero_le _⟩ rfl (Nat.le_of_ble_eq_true rfl) dX8_undo_28 (fun H locs hw => ?_)
      obtain ⟨z5_, e5, hf⟩ := bx hf
      obtain rfl := okZ_in e5
      exact fin_z C hw e5 (Option.some.inj hf) (fun o => o.1) (fun o => (mO G am as_ ar ac an ath ah o.2.1 ++ (hO G ah (rgA ads rs) o.2.2.1 ++ (tO G an o.2.2.2.1 ++ (pO G an o.2.2.2.2.1 ++ (zO G an o.2.2.2.2.2.1 ++ (eO G an o.2.2.2.2.2.2 ++ (kO G ads rs ++ [])))))))) rfl rfl dX8_undo_31
    · replace hf := ifp hf hc
      exact hB_21  m_am u3.2.1 u3.2.2.1 u3.2.2.2.1 u3.2.2.2.2.1 u3.2.2.2.2.2 hf _ _ hw _ (lv_sub hl [0] rfl)
set_option maxHeartbeats 4000000 in
set_option maxRecDepth 100000 in
theorem c_X8_foretell (l : Launch) (G : GG) (am : Nat → Nat) (as_ : Nat → Nat) (ar : Nat → Nat) (ac : Nat → Nat) (an : Nat → Nat) (ath : Nat → Nat) (ah : Nat → Nat) (sz : Nat) (m_am : Pic) (s_as_ : Pic) (t_an : Pic) (p_ath : Pic) (z_ath : Pic) (e_an : Pic) (x1 : Int32) (x2 : Int32) (out : Pic × Pic) (hf : f_X8_foretell m_am s_as_ t_an p_ath z_ath e_an x1 x2 = some out) : Met l yX8_foretell (.code yX8_foretell cX8_foretell 4 none :: BT) ({ frames := 6, cells := 0, slots := 0, locals := 141 }) (va_Pc [.ref (am 99), .int x1, .int x2] (PreW G sz (mO G am as_ ar ac an ath ah m_am ++ (sO G as_ s_as_ ++ (tO G an t_an ++ (pO G ath p_ath ++ (zO G ath z_ath ++ (eO G an e_an ++ [])))))))) (Don G (va_A (mO G am as_ ar ac an ath ah m_am ++ (sO G as_ s_as_ ++ (tO G an t_an ++ (pO G ath p_ath ++ (zO G ath z_ath ++ (eO G an e_an ++ [])))))) sz) (mO G am as_ ar ac an ath ah m_am ++ (sO G as_ s_as_ ++ (tO G an t_an ++ (pO G ath out.1 ++ (zO G ath out.2 ++ (eO G an e_an ++ []))))))) 0 0 (va_A (mO G am as_ ar ac an ath ah m_am ++ (sO G as_ s_as_ ++ (tO G an t_an ++ (pO G ath p_ath ++ (zO G ath z_ath ++ (eO G an e_an ++ [])))))) sz) := by
  refine Met.into (by decide) (Nat.le_of_ble_eq_true rfl) ?_
  intro p e s m below meth c C hsz ls hl hw
  have hl : lv_has ls 4 [(0, .ref (am 99)), (1, .int x1), (2, .int x2)] := hl
  clear hsz
  generalize va_A (mO G am as_ ar ac an ath ah m_am ++ (sO G as_ s_as_ ++ (tO G an t_an ++ (pO G ath p_ath ++ (zO G ath z_ath ++ (eO G an e_an ++ [])))))) sz = A at hw ⊢
  have hB_18 : ∀ (k18 : Pic → Pic → Int32 → Option (Pic × Pic)) (hk18 : ∀ (p_ath : Pic) (z_ath : Pic) (v3 : Int32), k18 p_ath z_ath v3 = some out → ∀ (H : Heap) (locs : List Loc), Wd G A s H locs (mO G am as_ ar ac an ath ah m_am ++ (sO G as_ s_as_ ++ (tO G an t_an ++ (pO G ath p_ath ++ (zO G ath z_ath ++ (eO G an e_an ++ [])))))) → ∀ ls : Array Slot, lv_has ls 4 [(0, .ref (am 99)), (3, .int v3)] → W p l e ({ frames := 6, cells := 0, slots := 0, locals := 141 }) s m [.ref (am 99), .int x1, .int x2].toArray below meth c H locs 0 0 (MQ below (Don G A (mO G am as_ ar ac an ath ah m_am ++ (sO G as_ s_as_ ++ (tO G an t_an ++ (pO G ath out.1 ++ (zO G ath out.2 ++ (eO G an e_an ++ []))))))) [.ref (am 99), .int x1, .int x2].toArray s 0 0 A) (F0 m 18 ls [])), ∀ (p_ath : Pic) (z_ath : Pic) (v3 : Int32), b_X8_foretell_18 m_am s_as_ t_an e_an x1 x2 k18 p_ath z_ath v3 = some out → ∀ (H : Heap) (locs : List Loc), Wd G A s H locs (mO G am as_ ar ac an ath ah m_am ++ (sO G as_ s_as_ ++ (tO G an t_an ++ (pO G ath p_ath ++ (zO G ath z_ath ++ (eO G an e_an ++ [])))))) → ∀ ls : Array Slot, lv_has ls 4 [(0, .ref (am 99)), (3, .int v3)] → W p l e ({ frames := 6, cells := 0, slots := 0, locals := 141 }) s m [.ref (am 99), .int x1, .int x2].toArray below meth c H locs 0 0 (MQ below (Don G A (mO G am as_ ar ac an ath ah m_am ++ (sO G as_ s_as_ ++ (tO G an t_an ++ (pO G ath out.1 ++ (zO G ath out.2 ++ (eO G an e_an ++ []))))))) [.ref (am 99), .int x1, .int x2].toArray s 0 0 A) (F0 m 18 ls []) := by
    intro k18 hk18 p_ath z_ath v3 hf H locs hw ls hl
    unfold b_X8_foretell_18 at hf
    refine r_iload0 C hl 1 rfl dX8_foretell_18 ?_
    refine r_aload0 C hl 0 rfl dX8_foretell_19 ?_
    refine r_get C hw _ (gx_h mO_o) 6 fl_X8_16 rfl dX8_foretell_20 ?_
    refine r_get C hw _ (gx_t (gx_h sO_o)) 4 fl_X8_117 rfl dX8_foretell_23 ?_
    refine lv_icmp_ge (tgt := 44) C.1 C.2.1 dX8_foretell_26 (by decide) (fun hc => ?_) (fun hc => ?_)
    · replace hf := ifp hf hc
      exact fin_v C hw (Option.some.inj hf) (fun o => (mO G am as_ ar ac an ath ah m_am ++ (sO G as_ s_as_ ++ (tO G an t_an ++ (pO G ath o.1 ++ (zO G ath o.2 ++ (eO G an e_an ++ []))))))) rfl dX8_foretell_44
    · replace hf := ifn hf hc
      refine r_aload0 C hl 0 rfl dX8_foretell_29 ?_
      refine r_aload0 C hl 0 rfl dX8_foretell_30 ?_
      refine r_get C hw _ (gx_h mO_o) 10 fl_X8_44 rfl dX8_foretell_31 ?_
      refine r_iload0 C hl 1 rfl dX8_foretell_34 ?_
      obtain ⟨u2, e2, hf⟩ := bx hf
      refine r_callVv (ws' := (mO G am as_ ar ac an ath ah m_am ++ (sO G as_ s_as_ ++ (tO G an t_an ++ (pO G ath u2.1 ++ (zO G ath u2.2 ++ (eO G an e_an ++ []))))))) (As := [.ref (ath 99), .int v3]) (rest := []) C hw hl.1 kX8_perform ml_X8_351 (c_X8_perform l G am as_ ar ac an ath ah ath _ m_am s_as_ t_an p_ath z_ath e_an v3 u2 e2) (CutX.take mO_f (CutX.take sO_f (CutX.take tO_f (CutX.take pO_f (CutX.take zO_f (CutX.take eO_f CutX.none)))))) _ (gx_h mO_o) rfl ⟨rfl, rfl⟩ ⟨Nat.le_of_ble_eq_true rfl, Nat.le_of_ble_eq_true rfl⟩ rfl ⟨Nat.zero_le _, Nat.zero_le _⟩ rfl (Nat.le_of_ble_eq_true rfl) dX8_foretell_35 (fun H locs hw => ?_)
      refine r_iinc C hl 1 (v3 + 1) [(3, .int (v3 + 1)), (0, .ref (am 99))] rfl (iinc_e (by decide)) (by decide) rfl dX8_foretell_38 (fun ls hl => ?_)
      refine lv_goto (tgt := 18) C.1 C.2.1 dX8_foretell_41 (by decide) ?_
      exact hk18 u2.1 u2.2 (v3 + 1) hf _ _ hw _ (lv_sub hl [1, 0] rfl)
  have hL_18 : ∀ n : Nat, ∀ (p_ath : Pic) (z_ath : Pic) (v3 : Int32), L_X8_foretell_18 m_am s_as_ t_an e_an x1 x2  n p_ath z_ath v3 = some out → ∀ (H : Heap) (locs : List Loc), Wd G A s H locs (mO G am as_ ar ac an ath ah m_am ++ (sO G as_ s_as_ ++ (tO G an t_an ++ (pO G ath p_ath ++ (zO G ath z_ath ++ (eO G an e_an ++ [])))))) → ∀ ls : Array Slot, lv_has ls 4 [(0, .ref (am 99)), (3, .int v3)] → W p l e ({ frames := 6, cells := 0, slots := 0, locals := 141 }) s m [.ref (am 99), .int x1, .int x2].toArray below meth c H locs 0 0 (MQ below (Don G A (mO G am as_ ar ac an ath ah m_am ++ (sO G as_ s_as_ ++ (tO G an t_an ++ (pO G ath out.1 ++ (zO G ath out.2 ++ (eO G an e_an ++ []))))))) [.ref (am 99), .int x1, .int x2].toArray s 0 0 A) (F0 m 18 ls []) := by
    intro  n
    induction n with
    | zero => intro p_ath z_ath v3 hf; cases hf
    | succ n ih => exact hB_18 _ ih
  unfold f_X8_foretell at hf
  refine r_aload0 C hl 0 rfl dX8_foretell_0 ?_
  refine r_get C hw _ (gx_h mO_o) 10 fl_X8_44 rfl dX8_foretell_1 ?_
  refine r_iload0 C hl 1 rfl dX8_foretell_4 ?_
  refine r_iload0 C hl 2 rfl dX8_foretell_5 ?_
  refine r_aload0 C hl 0 rfl dX8_foretell_6 ?_
  refine r_get C hw _ (gx_h mO_o) 6 fl_X8_16 rfl dX8_foretell_7 ?_
  refine r_get C hw _ (gx_t (gx_h sO_o)) 2 fl_X8_378 rfl dX8_foretell_10 ?_
  obtain ⟨u1, e1, hf⟩ := bx hf
  refine r_callVv (ws' := (mO G am as_ ar ac an ath ah m_am ++ (sO G as_ s_as_ ++ (tO G an t_an ++ (pO G ath u1.1 ++ (zO G ath u1.2 ++ (eO G an e_an ++ []))))))) (As := [.int x1, .int x2, .int (gS s_as_ 2)]) (rest := []) C hw hl.1 kX3_begin ml_X8_379 (c_X3_begin l G ath _ p_ath z_ath x1 x2 (gS s_as_ 2) u1 e1) (CutX.skip (CutX.skip (CutX.skip (CutX.take pO_f (CutX.take zO_f CutX.none))))) _ (gx_t (gx_t (gx_t (gx_h pO_o)))) rfl ⟨rfl, rfl⟩ ⟨Nat.le_of_ble_eq_true rfl, Nat.le_of_ble_eq_true rfl⟩ rfl ⟨Nat.zero_le _, Nat.zero_le _⟩ rfl (Nat.le_of_ble_eq_true rfl) dX8_foretell_13 (fun H locs hw => ?_)
  refine lv_iconst (v := 0) C.1 C.2.1 dX8_foretell_16 (by decide) ?_
  refine r_istore0 C hl [(3, .int 0), (0, .ref (am 99)), (1, .int x1), (2, .int x2)] (by decide) rfl dX8_foretell_17 (fun ls hl => ?_)
  exact hL_18  FU u1.1 u1.2 0 hf _ _ hw _ (lv_sub hl [1, 0] rfl)
set_option maxHeartbeats 4000000 in
set_option maxRecDepth 100000 in
theorem c_X8_foretold (l : Launch) (G : GG) (am : Nat → Nat) (as_ : Nat → Nat) (ar : Nat → Nat) (ac : Nat → Nat) (an : Nat → Nat) (ath : Nat → Nat) (ah : Nat → Nat) (sz : Nat) (m_am : Pic) (s_as_ : Pic) (t_an : Pic) (p_ath : Pic) (z_ath : Pic) (e_an : Pic) (x1 : Int32) (x2 : Int32) (x3 : Int32) (out : Int32 × Pic × Pic × Pic) (hf : f_X8_foretold m_am s_as_ t_an p_ath z_ath e_an x1 x2 x3 = some out) : Met l yX8_foretold (.code yX8_foretold cX8_foretold 4 (some .int) :: BT) ({ frames := 7, cells := 0, slots := 0, locals := 164 }) (va_Pc [.ref (am 99), .int x1, .int x2, .int x3] (PreW G sz (mO G am as_ ar ac an ath ah m_am ++ (sO G as_ s_as_ ++ (tO G an t_an ++ (pO G ath p_ath ++ (zO G ath z_ath ++ (eO G an e_an ++ [])))))))) (Ans G out.1 (va_A (mO G am as_ ar ac an ath ah m_am ++ (sO G as_ s_as_ ++ (tO G an t_an ++ (pO G ath p_ath ++ (zO G ath z_ath ++ (eO G an e_an ++ [])))))) sz) (mO G am as_ ar ac an ath ah out.2.1 ++ (sO G as_ s_as_ ++ (tO G an t_an ++ (pO G ath out.2.2.1 ++ (zO G ath out.2.2.2 ++ (eO G an e_an ++ []))))))) 0 0 (va_A (mO G am as_ ar ac an ath ah m_am ++ (sO G as_ s_as_ ++ (tO G an t_an ++ (pO G ath p_ath ++ (zO G ath z_ath ++ (eO G an e_an ++ [])))))) sz) := by
  refine Met.into (by decide) (Nat.le_of_ble_eq_true rfl) ?_
  intro p e s m below meth c C hsz ls hl hw
  have hl : lv_has ls 4 [(0, .ref (am 99)), (1, .int x1), (2, .int x2), (3, .int x3)] := hl
  clear hsz
  generalize va_A (mO G am as_ ar ac an ath ah m_am ++ (sO G as_ s_as_ ++ (tO G an t_an ++ (pO G ath p_ath ++ (zO G ath z_ath ++ (eO G an e_an ++ [])))))) sz = A at hw ⊢
  have hB_16 : ∀ (m_am : Pic) (p_ath : Pic) (z_ath : Pic), b_X8_foretold_16 s_as_ t_an e_an x1 x2 x3  m_am p_ath z_ath = some out → ∀ (H : Heap) (locs : List Loc), Wd G A s H locs (mO G am as_ ar ac an ath ah m_am ++ (sO G as_ s_as_ ++ (tO G an t_an ++ (pO G ath p_ath ++ (zO G ath z_ath ++ (eO G an e_an ++ [])))))) → ∀ ls : Array Slot, lv_has ls 4 [(0, .ref (am 99))] → W p l e ({ frames := 7, cells := 0, slots := 0, locals := 164 }) s m [.ref (am 99), .int x1, .int x2, .int x3].toArray below meth c H locs 0 0 (MQ below (Ans G out.1 A (mO G am as_ ar ac an ath ah out.2.1 ++ (sO G as_ s_as_ ++ (tO G an t_an ++ (pO G ath out.2.2.1 ++ (zO G ath out.2.2.2 ++ (eO G an e_an ++ []))))))) [.ref (am 99), .int x1, .int x2, .int x3].toArray s 0 0 A) (F0 m 16 ls []) := by
    intro m_am p_ath z_ath hf H locs hw ls hl
    unfold b_X8_foretold_16 at hf
    refine r_aload0 C hl 0 rfl dX8_foretold_16 ?_
    refine lv_iconst (v := 1) C.1 C.2.1 dX8_foretold_17 (by decide) ?_
    obtain ⟨u1, e1, hf⟩ := bx hf
    refine r_callVi (ws' := (mO G am as_ ar ac an ath ah u1.2 ++ (sO G as_ s_as_ ++ (tO G an t_an ++ (pO G ath p_ath ++ (zO G ath z_ath ++ (eO G an e_an ++ []))))))) (As := [.int 1]) (rest := []) C hw hl.1 kX8_refuse ml_X8_63 (c_X8_refuse l G am as_ ar ac an ath ah _ m_am 1 u1 e1) (CutX.take mO_f CutX.none) _ (gx_h mO_o) rfl ⟨rfl, rfl⟩ ⟨Nat.le_of_ble_eq_true rfl, Nat.le_of_ble_eq_true rfl⟩ rfl ⟨Nat.zero_le _, Nat.zero_le _⟩ rfl (Nat.le_of_ble_eq_true rfl) dX8_foretold_18 (fun H locs hw => ?_)
    exact fin_i C hw (Option.some.inj hf) (fun o => o.1) (fun o => (mO G am as_ ar ac an ath ah o.2.1 ++ (sO G as_ s_as_ ++ (tO G an t_an ++ (pO G ath o.2.2.1 ++ (zO G ath o.2.2.2 ++ (eO G an e_an ++ []))))))) rfl rfl dX8_foretold_21
  have hB_39 : ∀ (m_am : Pic) (p_ath : Pic) (z_ath : Pic), b_X8_foretold_39 s_as_ t_an e_an x1 x2 x3  m_am p_ath z_ath = some out → ∀ (H : Heap) (locs : List Loc), Wd G A s H locs (mO G am as_ ar ac an ath ah m_am ++ (sO G as_ s_as_ ++ (tO G an t_an ++ (pO G ath p_ath ++ (zO G ath z_ath ++ (eO G an e_an ++ [])))))) → ∀ ls : Array Slot, lv_has ls 4 [(0, .ref (am 99))] → W p l e ({ frames := 7, cells := 0, slots := 0, locals := 164 }) s m [.ref (am 99), .int x1, .int x2, .int x3].toArray below meth c H locs 0 0 (MQ below (Ans G out.1 A (mO G am as_ ar ac an ath ah out.2.1 ++ (sO G as_ s_as_ ++ (tO G an t_an ++ (pO G ath out.2.2.1 ++ (zO G ath out.2.2.2 ++ (eO G an e_an ++ []))))))) [.ref (am 99), .int x1, .int x2, .int x3].toArray s 0 0 A) (F0 m 39 ls []) := by
    intro m_am p_ath z_ath hf H locs hw ls hl
    unfold b_X8_foretold_39 at hf
    refine r_aload0 C hl 0 rfl dX8_foretold_39 ?_
    refine lv_iconst (v := 2) C.1 C.2.1 dX8_foretold_40 (by decide) ?_
    obtain ⟨u3, e3, hf⟩ := bx hf
    refine r_callVi (ws' := (mO G am as_ ar ac an ath ah u3.2 ++ (sO G as_ s_as_ ++ (tO G an t_an ++ (pO G ath p_ath ++ (zO G ath z_ath ++ (eO G an e_an ++ []))))))) (As := [.int 2]) (rest := []) C hw hl.1 kX8_refuse ml_X8_63 (c_X8_refuse l G am as_ ar ac an ath ah _ m_am 2 u3 e3) (CutX.take mO_f CutX.none) _ (gx_h mO_o) rfl ⟨rfl, rfl⟩ ⟨Nat.le_of_ble_eq_true rfl, Nat.le_of_ble_eq_true rfl⟩ rfl ⟨Nat.zero_le _, Nat.zero_le _⟩ rfl (Nat.le_of_ble_eq_true rfl) dX8_foretold_41 (fun H locs hw => ?_)
    exact fin_i C hw (Option.some.inj hf) (fun o => o.1) (fun o => (mO G am as_ ar ac an ath ah o.2.1 ++ (sO G as_ s_as_ ++ (tO G an t_an ++ (pO G ath o.2.2.1 ++ (zO G ath o.2.2.2 ++ (eO G an e_an ++ []))))))) rfl rfl dX8_foretold_44
  unfold f_X8_foretold at hf
  refine r_aload0 C hl 0 rfl dX8_foretold_0 ?_
  refine r_get C hw _ (gx_h mO_o) 2 fl_X8_85 rfl dX8_foretold_1 ?_
  refine lv_if_eq (tgt := 16) C.1 C.2.1 dX8_foretold_4 (by decide) (fun hc => ?_) (fun hc => ?_)
  · replace hf := ifp hf hc
    exact hB_16  m_am p_ath z_ath hf _ _ hw _ (lv_sub hl [0] rfl)
  · replace hf := ifn hf hc
    refine r_iload0 C hl 3 rfl dX8_foretold_7 ?_
    refine lv_if_lt (tgt := 16) C.1 C.2.1 dX8_foretold_8 (by decide) (fun hc => ?_) (fun hc => ?_)
    · replace hf := ifp hf hc
      exact hB_16  m_am p_ath z_ath hf _ _ hw _ (lv_sub hl [0] rfl)
    · replace hf := ifn hf hc
      refine r_iload0 C hl 3 rfl dX8_foretold_11 ?_
      refine lv_iconst (v := 2) C.1 C.2.1 dX8_foretold_12 (by decide) ?_
      refine lv_icmp_le (tgt := 22) C.1 C.2.1 dX8_foretold_13 (by decide) (fun hc => ?_) (fun hc => ?_)
      · replace hf := ifp hf hc
        refine r_iload0 C hl 1 rfl dX8_foretold_22 ?_
        obtain ⟨u2, e2, hf⟩ := bx hf
        refine r_callSi (ws' := (mO G am as_ ar ac an ath ah m_am ++ (sO G as_ s_as_ ++ (tO G an t_an ++ (pO G ath p_ath ++ (zO G ath z_ath ++ (eO G an e_an ++ []))))))) (As := [.int x1]) (rest := []) C hw hl.1 kX8_noLimit ml_X8_277 (c_X8_noLimit l G _ x1 u2 e2) CutX.none ⟨rfl, rfl⟩ ⟨Nat.le_of_ble_eq_true rfl, Nat.le_of_ble_eq_true rfl⟩ rfl ⟨Nat.zero_le _, Nat.zero_le _⟩ rfl (Nat.le_of_ble_eq_true rfl) dX8_foretold_23 (fun H locs hw => ?_)
        refine lv_if_ne (tgt := 39) C.1 C.2.1 dX8_foretold_26 (by decide) (fun hc => ?_) (fun hc => ?_)
        · replace hf := ifn hf hc
          exact hB_39  m_am p_ath z_ath hf _ _ hw _ (lv_sub hl [0] rfl)
        · replace hf := ifp hf hc
          refine r_iload0 C hl 2 rfl dX8_foretold_29 ?_
          refine lv_iconst (v := 1) C.1 C.2.1 dX8_foretold_30 (by decide) ?_
          refine lv_icmp_lt (tgt := 39) C.1 C.2.1 dX8_foretold_31 (by decide) (fun hc => ?_) (fun hc => ?_)
          · replace hf := ifp hf hc
            exact hB_39  m_am p_ath z_ath hf _ _ hw _ (lv_sub hl [0] rfl)
          · replace hf := ifn hf hc
            refine r_iload0 C hl 2 rfl dX8_foretold_34 ?_
            refine lv_iconst (v := 4) C.1 C.2.1 dX8_foretold_35 (by decide) ?_
            refine lv_icmp_le (tgt := 45) C.1 C.2.1 dX8_foretold_36 (by decide) (fun hc => ?_) (fun hc => ?_)
            · replace hf := ifp hf hc
              refine r_aload0 C hl 0 rfl dX8_foretold_45 ?_
              refine r_iload0 C hl 1 rfl dX8_foretold_46 ?_
              refine r_iload0 C hl 2 rfl dX8_foretold_47 ?_
              obtain ⟨u4, e4, hf⟩ := bx hf
              refine r_callVv (ws' := (mO G am as_ ar ac an ath ah m_am ++ (sO G as_ s_as_ ++ (tO G an t_an ++ (pO G ath u4.1 ++ (zO G ath u4.2 ++ (eO G an e_an ++ []))))))) (As := [.int x1, .int x2]) (rest := []) C hw hl.1 kX8_foretell ml_X8_308 (c_X8_foretell l G am as_ ar ac an ath ah _ m_am s_as_ t_an p_ath z_ath e_an x1 x2 u4 e4) (CutX.take mO_f (CutX.take sO_f (CutX.take tO_f (CutX.take pO_f (CutX.take zO_f (CutX.take eO_f CutX.none)))))) _ (gx_h mO_o) rfl ⟨rfl, rfl⟩ ⟨Nat.le_of_ble_eq_true rfl, Nat.le_of_ble_eq_true rfl⟩ rfl ⟨Nat.zero_le _, Nat.zero_le _⟩ rfl (Nat.le_of_ble_eq_true rfl) dX8_foretold_48 (fun H locs hw => ?_)
              refine r_aload0 C hl 0 rfl dX8_foretold_51 ?_
              refine r_aload0 C hl 0 rfl dX8_foretold_52 ?_
              refine r_get C hw _ (gx_h mO_o) 10 fl_X8_44 rfl dX8_foretold_53 ?_
              refine r_get C hw _ (gx_t (gx_t (gx_t (gx_h pO_o)))) 12 fl_X8_270 rfl dX8_foretold_56 ?_
              refine r_iload0 C hl 3 rfl dX8_foretold_59 ?_
              obtain ⟨v5_, e5, hf⟩ := bx hf
              refine r_iald C hw _ (gx_t (gx_t (gx_t (gx_h pO_g12)))) e5 dX8_foretold_60 ?_
              obtain ⟨u6, e6, hf⟩ := bx hf
              refine r_callVi (ws' := (mO G am as_ ar ac an ath ah u6.2 ++ (sO G as_ s_as_ ++ (tO G an t_an ++ (pO G ath u4.1 ++ (zO G ath u4.2 ++ (eO G an e_an ++ []))))))) (As := [.int v5_]) (rest := []) C hw hl.1 kX8_answer ml_X8_99 (c_X8_answer l G am as_ ar ac an ath ah _ m_am v5_ u6 e6) (CutX.take mO_f CutX.none) _ (gx_h mO_o) rfl ⟨rfl, rfl⟩ ⟨Nat.le_of_ble_eq_true rfl, Nat.le_of_ble_eq_true rfl⟩ rfl ⟨Nat.zero_le _, Nat.zero_le _⟩ rfl (Nat.le_of_ble_eq_true rfl) dX8_foretold_61 (fun H locs hw => ?_)
              exact fin_i C hw (Option.some.inj hf) (fun o => o.1) (fun o => (mO G am as_ ar ac an ath ah o.2.1 ++ (sO G as_ s_as_ ++ (tO G an t_an ++ (pO G ath o.2.2.1 ++ (zO G ath o.2.2.2 ++ (eO G an e_an ++ []))))))) rfl rfl dX8_foretold_64
            · replace hf := ifn hf hc
              exact hB_39  m_am p_ath z_ath hf _ _ hw _ (lv_sub hl [0] rfl)
      · replace hf := ifn hf hc
        exact hB_16  m_am p_ath z_ath hf _ _ hw _ (lv_sub hl [0] rfl)
set_option maxHeartbeats 4000000 in
set_option maxRecDepth 100000 in
theorem c_X8_enough (l : Launch) (G : GG) (am : Nat → Nat) (as_ : Nat → Nat) (ar : Nat → Nat) (ac : Nat → Nat) (an : Nat → Nat) (ath : Nat → Nat) (ah : Nat → Nat) (sz : Nat) (m_am : Pic) (s_as_ : Pic) (t_an : Pic) (p_ath : Pic) (z_ath : Pic) (e_an : Pic)  (out : Int32 × Pic × Pic × Pic) (hf : f_X8_enough m_am s_as_ t_an p_ath z_ath e_an = some out) : Met l yX8_enough (.code yX8_enough cX8_enough 2 (some .int) :: BT) ({ frames := 7, cells := 0, slots := 0, locals := 164 }) (va_Pc [.ref (am 99)] (PreW G sz (mO G am as_ ar ac an ath ah m_am ++ (sO G as_ s_as_ ++ (tO G an t_an ++ (pO G ath p_ath ++ (zO G ath z_ath ++ (eO G an e_an ++ [])))))))) (Ans G out.1 (va_A (mO G am as_ ar ac an ath ah m_am ++ (sO G as_ s_as_ ++ (tO G an t_an ++ (pO G ath p_ath ++ (zO G ath z_ath ++ (eO G an e_an ++ [])))))) sz) (mO G am as_ ar ac an ath ah out.2.1 ++ (sO G as_ s_as_ ++ (tO G an t_an ++ (pO G ath out.2.2.1 ++ (zO G ath out.2.2.2 ++ (eO G an e_an ++ []))))))) 0 0 (va_A (mO G am as_ ar ac an ath ah m_am ++ (sO G as_ s_as_ ++ (tO G an t_an ++ (pO G ath p_ath ++ (zO G ath z_ath ++ (eO G an e_an ++ [])))))) sz) := by
  refine Met.into (by decide) (Nat.le_of_ble_eq_true rfl) ?_
  intro p e s m below meth c C hsz ls hl hw
  have hl : lv_has ls 2 [(0, .ref (am 99))] := hl
  clear hsz
  generalize va_A (mO G am as_ ar ac an ath ah m_am ++ (sO G as_ s_as_ ++ (tO G an t_an ++ (pO G ath p_ath ++ (zO G ath z_ath ++ (eO G an e_an ++ [])))))) sz = A at hw ⊢
  have hB_15 : ∀ (k15 : Pic → Pic → Pic → Int32 → Option (Int32 × Pic × Pic × Pic)) (hk15 : ∀ (m_am : Pic) (p_ath : Pic) (z_ath : Pic) (v1 : Int32), k15 m_am p_ath z_ath v1 = some out → ∀ (H : Heap) (locs : List Loc), Wd G A s H locs (mO G am as_ ar ac an ath ah m_am ++ (sO G as_ s_as_ ++ (tO G an t_an ++ (pO G ath p_ath ++ (zO G ath z_ath ++ (eO G an e_an ++ [])))))) → ∀ ls : Array Slot, lv_has ls 2 [(0, .ref (am 99)), (1, .int v1)] → W p l e ({ frames := 7, cells := 0, slots := 0, locals := 164 }) s m [.ref (am 99)].toArray below meth c H locs 0 0 (MQ below (Ans G out.1 A (mO G am as_ ar ac an ath ah out.2.1 ++ (sO G as_ s_as_ ++ (tO G an t_an ++ (pO G ath out.2.2.1 ++ (zO G ath out.2.2.2 ++ (eO G an e_an ++ []))))))) [.ref (am 99)].toArray s 0 0 A) (F0 m 15 ls [])), ∀ (m_am : Pic) (p_ath : Pic) (z_ath : Pic) (v1 : Int32), b_X8_enough_15 s_as_ t_an e_an k15 m_am p_ath z_ath v1 = some out → ∀ (H : Heap) (locs : List Loc), Wd G A s H locs (mO G am as_ ar ac an ath ah m_am ++ (sO G as_ s_as_ ++ (tO G an t_an ++ (pO G ath p_ath ++ (zO G ath z_ath ++ (eO G an e_an ++ [])))))) → ∀ ls : Array Slot, lv_has ls 2 [(0, .ref (am 99)), (1, .int v1)] → W p l e ({ frames := 7, cells := 0, slots := 0, locals := 164 }) s m [.ref (am 99)].toArray below meth c H locs 0 0 (MQ below (Ans G out.1 A (mO G am as_ ar ac an ath ah out.2.1 ++ (sO G as_ s_as_ ++ (tO G an t_an ++ (pO G ath out.2.2.1 ++ (zO G ath out.2.2.2 ++ (eO G an e_an ++ []))))))) [.ref (am 99)].toArray s 0 0 A) (F0 m 15 ls []) := by
    intro k15 hk15 m_am p_ath z_ath v1 hf H locs hw ls hl
    unfold b_X8_enough_15 at hf
    refine r_iload0 C hl 1 rfl dX8_enough_15 ?_
    refine lv_bipush (v := 24) C.1 C.2.1 dX8_enough_16 (by decide) ?_
    refine lv_icmp_gt (tgt := 57) C.1 C.2.1 dX8_enough_18 (by decide) (fun hc => ?_) (fun hc => ?_)
    · replace hf := ifp hf hc
      refine r_aload0 C hl 0 rfl dX8_enough_57 ?_
      refine lv_bipush (v := (-2)) C.1 C.2.1 dX8_enough_58 (by decide) ?_
      obtain ⟨u1, e1, hf⟩ := bx hf
      refine r_callVi (ws' := (mO G am as_ ar ac an ath ah u1.2 ++ (sO G as_ s_as_ ++ (tO G an t_an ++ (pO G ath p_ath ++ (zO G ath z_ath ++ (eO G an e_an ++ []))))))) (As := [.int (-2)]) (rest := []) C hw hl.1 kX8_answer ml_X8_99 (c_X8_answer l G am as_ ar ac an ath ah _ m_am (-2) u1 e1) (CutX.take mO_f CutX.none) _ (gx_h mO_o) rfl ⟨rfl, rfl⟩ ⟨Nat.le_of_ble_eq_true rfl, Nat.le_of_ble_eq_true rfl⟩ rfl ⟨Nat.zero_le _, Nat.zero_le _⟩ rfl (Nat.le_of_ble_eq_true rfl) dX8_enough_60 (fun H locs hw => ?_)
      exact fin_i C hw (Option.some.inj hf) (fun o => o.1) (fun o => (mO G am as_ ar ac an ath ah o.2.1 ++ (sO G as_ s_as_ ++ (tO G an t_an ++ (pO G ath o.2.2.1 ++ (zO G ath o.2.2.2 ++ (eO G an e_an ++ []))))))) rfl rfl dX8_enough_63
    · replace hf := ifn hf hc
      refine r_aload0 C hl 0 rfl dX8_enough_21 ?_
      refine r_iload0 C hl 1 rfl dX8_enough_22 ?_
      refine r_aload0 C hl 0 rfl dX8_enough_23 ?_
      refine r_get C hw _ (gx_h mO_o) 6 fl_X8_16 rfl dX8_enough_24 ?_
      refine r_get C hw _ (gx_t (gx_h sO_o)) 1 fl_X8_311 rfl dX8_enough_27 ?_
      obtain ⟨u2, e2, hf⟩ := bx hf
      refine r_callVv (ws' := (mO G am as_ ar ac an ath ah m_am ++ (sO G as_ s_as_ ++ (tO G an t_an ++ (pO G ath u2.1 ++ (zO G ath u2.2 ++ (eO G an e_an ++ []))))))) (As := [.int v1, .int (gS s_as_ 1)]) (rest := []) C hw hl.1 kX8_foretell ml_X8_308 (c_X8_foretell l G am as_ ar ac an ath ah _ m_am s_as_ t_an p_ath z_ath e_an v1 (gS s_as_ 1) u2 e2) (CutX.take mO_f (CutX.take sO_f (CutX.take tO_f (CutX.take pO_f (CutX.take zO_f (CutX.take eO_f CutX.none)))))) _ (gx_h mO_o) rfl ⟨rfl, rfl⟩ ⟨Nat.le_of_ble_eq_true rfl, Nat.le_of_ble_eq_true rfl⟩ rfl ⟨Nat.zero_le _, Nat.zero_le _⟩ rfl (Nat.le_of_ble_eq_true rfl) dX8_enough_30 (fun H locs hw => ?_)
      refine r_aload0 C hl 0 rfl dX8_enough_33 ?_
      refine r_get C hw _ (gx_h mO_o) 10 fl_X8_44 rfl dX8_enough_34 ?_
      refine r_get C hw _ (gx_t (gx_t (gx_t (gx_h pO_o)))) 12 fl_X8_270 rfl dX8_enough_37 ?_
      refine lv_iconst (v := 1) C.1 C.2.1 dX8_enough_40 (by decide) ?_
      obtain ⟨v3_, e3, hf⟩ := bx hf
      refine r_iald C hw _ (gx_t (gx_t (gx_t (gx_h pO_g12)))) e3 dX8_enough_41 ?_
      refine lv_if_ne (tgt := 51) C.1 C.2.1 dX8_enough_42 (by decide) (fun hc => ?_) (fun hc => ?_)
      · replace hf := ifn hf hc
        refine r_iinc C hl 1 (v1 + 1) [(1, .int (v1 + 1)), (0, .ref (am 99))] rfl (iinc_e (by decide)) (by decide) rfl dX8_enough_51 (fun ls hl => ?_)
        refine lv_goto (tgt := 15) C.1 C.2.1 dX8_enough_54 (by decide) ?_
        exact hk15 m_am u2.1 u2.2 (v1 + 1) hf _ _ hw _ (lv_sub hl [1, 0] rfl)
      · replace hf := ifp hf hc
        refine r_aload0 C hl 0 rfl dX8_enough_45 ?_
        refine r_iload0 C hl 1 rfl dX8_enough_46 ?_
        obtain ⟨u4, e4, hf⟩ := bx hf
        refine r_callVi (ws' := (mO G am as_ ar ac an ath ah u4.2 ++ (sO G as_ s_as_ ++ (tO G an t_an ++ (pO G ath u2.1 ++ (zO G ath u2.2 ++ (eO G an e_an ++ []))))))) (As := [.int v1]) (rest := []) C hw hl.1 kX8_answer ml_X8_99 (c_X8_answer l G am as_ ar ac an ath ah _ m_am v1 u4 e4) (CutX.take mO_f CutX.none) _ (gx_h mO_o) rfl ⟨rfl, rfl⟩ ⟨Nat.le_of_ble_eq_true rfl, Nat.le_of_ble_eq_true rfl⟩ rfl ⟨Nat.zero_le _, Nat.zero_le _⟩ rfl (Nat.le_of_ble_eq_true rfl) dX8_enough_47 (fun H locs hw => ?_)
        exact fin_i C hw (Option.some.inj hf) (fun o => o.1) (fun o => (mO G am as_ ar ac an ath ah o.2.1 ++ (sO G as_ s_as_ ++ (tO G an t_an ++ (pO G ath o.2.2.1 ++ (zO G ath o.2.2.2 ++ (eO G an e_an ++ []))))))) rfl rfl dX8_enough_50
  have hL_15 : ∀ n : Nat, ∀ (m_am : Pic) (p_ath : Pic) (z_ath : Pic) (v1 : Int32), L_X8_enough_15 s_as_ t_an e_an  n m_am p_ath z_ath v1 = some out → ∀ (H : Heap) (locs : List Loc), Wd G A s H locs (mO G am as_ ar ac an ath ah m_am ++ (sO G as_ s_as_ ++ (tO G an t_an ++ (pO G ath p_ath ++ (zO G ath z_ath ++ (eO G an e_an ++ [])))))) → ∀ ls : Array Slot, lv_has ls 2 [(0, .ref (am 99)), (1, .int v1)] → W p l e ({ frames := 7, cells := 0, slots := 0, locals := 164 }) s m [.ref (am 99)].toArray below meth c H locs 0 0 (MQ below (Ans G out.1 A (mO G am as_ ar ac an ath ah out.2.1 ++ (sO G as_ s_as_ ++ (tO G an t_an ++ (pO G ath out.2.2.1 ++ (zO G ath out.2.2.2 ++ (eO G an e_an ++ []))))))) [.ref (am 99)].toArray s 0 0 A) (F0 m 15 ls []) := by
    intro  n
    induction n with
    | zero => intro m_am p_ath z_ath v1 hf; cases hf
    | succ n ih => exact hB_15 _ ih
  unfold f_X8_enough at hf
  refine r_aload0 C hl 0 rfl dX8_enough_0 ?_
  refine r_get C hw _ (gx_h mO_o) 2 fl_X8_85 rfl dX8_enough_1 ?_
  refine lv_if_ne (tgt := 13) C.1 C.2.1 dX8_enough_4 (by decide) (fun hc => ?_) (fun hc => ?_)
  · replace hf := ifn hf hc
    refine lv_iconst (v := 1) C.1 C.2.1 dX8_enough_13 (by decide) ?_
    refine r_istore0 C hl [(1, .int 1), (0, .ref (am 99))] (by decide) rfl dX8_enough_14 (fun ls hl => ?_)
    exact hL_15  FU m_am p_ath z_ath 1 hf _ _ hw _ (lv_sub hl [1, 0] rfl)
  · replace hf := ifp hf hc
    refine r_aload0 C hl 0 rfl dX8_enough_7 ?_
    refine lv_iconst (v := 1) C.1 C.2.1 dX8_enough_8 (by decide) ?_
    obtain ⟨u5, e5, hf⟩ := bx hf
    refine r_callVi (ws' := (mO G am as_ ar ac an ath ah u5.2 ++ (sO G as_ s_as_ ++ (tO G an t_an ++ (pO G ath p_ath ++ (zO G ath z_ath ++ (eO G an e_an ++ []))))))) (As := [.int 1]) (rest := []) C hw hl.1 kX8_refuse ml_X8_63 (c_X8_refuse l G am as_ ar ac an ath ah _ m_am 1 u5 e5) (CutX.take mO_f CutX.none) _ (gx_h mO_o) rfl ⟨rfl, rfl⟩ ⟨Nat.le_of_ble_eq_true rfl, Nat.le_of_ble_eq_true rfl⟩ rfl ⟨Nat.zero_le _, Nat.zero_le _⟩ rfl (Nat.le_of_ble_eq_true rfl) dX8_enough_9 (fun H locs hw => ?_)
    exact fin_i C hw (Option.some.inj hf) (fun o => o.1) (fun o => (mO G am as_ ar ac an ath ah o.2.1 ++ (sO G as_ s_as_ ++ (tO G an t_an ++ (pO G ath o.2.2.1 ++ (zO G ath o.2.2.2 ++ (eO G an e_an ++ []))))))) rfl rfl dX8_enough_12
